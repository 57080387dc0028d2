/-! EXPANSION, in both -/
section MJEX
variable {X : mj_X} {d nc ns : Nat} {Q : mj_Q} {I I' J J' H : Nat → Nat → Int32} {Lg : Nat → Nat → Int64} {Rf : Nat → Nat → Option Nat} {fb fb' : Nat → Nat → Int32} {vb : Nat → Int32} {K K' K'' : Nat × Nat × Nat} {P P' P'' : List Nat} {E : sgE} {N N' N'' : sgN} {S S' S'' : sgS} {M : sgM} {C C' C'' : sgC} {O : sgO} {L L' L'' : sgL} {t u n kc kr k0 : Nat} {x : Int32}
theorem c_10z (hR : mj_Rt mp_R Rf) (hv : gv (K, P, E, N, S, M, C, O, L)) (h : RC fb vb (K, P, E, N, S, M, C, O, L) I) (hQ : ∀ I', RC (mj_up fb 30 3 0) vb (K, P, E, N, S, M, C, O, L) I' → Q (.inl none) (sh59, I', Lg, Rf, nc, ns)) : mj_call X mj_P (mj_bi X) (d + 4) 10 [.ref 30, .int (nI 0)] (sh59, I, Lg, Rf, nc, ns) Q := by
  have hr := mc_rf hR
  have gM := (gv_d hv).2.2.2.2.1
  have h1 := rc_30 (q := 3) (v := 0) h
  have hC := (rc_d h1).2.2.2.2.2.1
  have c24 : mj_up I 30 3 0 24 0 = 0 := (hC.2.2.2.2 0 (Nat.zero_le _)).trans (by rw [gM.1.2.2.2]; rfl)
  have c23 : mj_up I 30 3 0 23 0 = 0 := (hC.2.2.2.1 0 (Nat.zero_le _)).trans (by rw [gM.1.2.1]; rfl)
  refine mj_enter (z := (6, [], mb_10)) (by decide) rfl rfl ?_
  refine mj_blk rfl ?_
  simp +decide only [mjs_0, mjs_1, mjs_2, mjs_3, mjs_ble, true_and, Bool.false_eq_true, if_false, if_true, Nat.reduceAdd, Nat.reduceSub, Nat.reduceLeDiff, false_implies, true_implies, not_false_eq_true, not_true_eq_false, and_true, mc_sh, hr, mjs_up_at, mjs_up_c, mjs_up_f]
  refine c_48 (k := 0) hR (by omega) ?_
  rw [c24]
  simp +decide only [mjs_0, mjs_1, mjs_2, mjs_3, mjs_ble, true_and, Bool.false_eq_true, if_false, if_true, Nat.reduceAdd, Nat.reduceSub, Nat.reduceLeDiff, false_implies, true_implies, not_false_eq_true, not_true_eq_false, and_true, mc_sh, hr, mjs_up_at, mjs_up_c, mjs_up_f]
  refine c_47 (k := 0) hR (by omega) ?_
  rw [c23]
  simp +decide only [mjs_0, mjs_1, mjs_2, mjs_3, mjs_ble, true_and, Bool.false_eq_true, if_false, if_true, Nat.reduceAdd, Nat.reduceSub, Nat.reduceLeDiff, false_implies, true_implies, not_false_eq_true, not_true_eq_false, and_true, mc_sh, hr, mjs_up_at, mjs_up_c, mjs_up_f]
  refine mj_blk rfl ?_
  simp +decide only [mjs_0, mjs_1, mjs_2, mjs_3, mjs_ble, true_and, Bool.false_eq_true, if_false, if_true, Nat.reduceAdd, Nat.reduceSub, Nat.reduceLeDiff, false_implies, true_implies, not_false_eq_true, not_true_eq_false, and_true, mc_sh, hr, mjs_up_at, mjs_up_c, mjs_up_f]
  refine mj_blk rfl ?_
  simp +decide only [mjs_0, mjs_1, mjs_2, mjs_3, mjs_ble, true_and, Bool.false_eq_true, if_false, if_true, Nat.reduceAdd, Nat.reduceSub, Nat.reduceLeDiff, false_implies, true_implies, not_false_eq_true, not_true_eq_false, and_true, mc_sh, hr, mjs_up_at, mjs_up_c, mjs_up_f]
  refine mj_blk rfl ?_
  simp +decide only [mjs_0, mjs_1, mjs_2, mjs_3, mjs_ble, true_and, Bool.false_eq_true, if_false, if_true, Nat.reduceAdd, Nat.reduceSub, Nat.reduceLeDiff, false_implies, true_implies, not_false_eq_true, not_true_eq_false, and_true, mc_sh, hr, mjs_up_at, mjs_up_c, mjs_up_f]
  exact hQ _ h1
/-- the empty macro, called by the reference -/
theorem r_142z (hM' : mj_Rt mm_R Rf) (hJ : RR H (K, P, E, N, S, M, C, O, L) J) {b : Nat} (hb : b < 30001) (hm : mq M (J 48) (J 49) (J 50) (J 51) 0 b) (hq : Q (.inl none) (sh59, J, Lg, Rf, nc, ns)) : mj_call X mj_P (mj_bi X) (d + 8) 142 [.ref 36, .int (nI b)] (sh59, J, Lg, Rf, nc, ns) Q := by
  have hm' := mm_rf hM'
  have hm := hm
  obtain ⟨p0, z, z1, z2, z3, z4⟩ := hm.2.2.2 rfl
  have eb : (nI b).toNatClampNeg = b := nI_clamp (by omega)
  have j48 : J 48 b = 0 := p0
  have hm := hm'
  refine mj_enter (z := (6, [], mb_142)) (by decide) rfl rfl ?_
  refine mj_blk rfl ?_
  simp +decide only [mjs_0, mjs_1, mjs_2, mjs_3, mjs_ble, true_and, Bool.false_eq_true, if_false, if_true, Nat.reduceAdd, Nat.reduceSub, Nat.reduceLeDiff, false_implies, true_implies, not_false_eq_true, not_true_eq_false, and_true, mm_sh, hm, mjs_up_at, mjs_up_c, mjs_up_f, eb, z2]
  refine ⟨nI_in (by omega) (by decide), mj_blk rfl ?_⟩
  simp +decide only [mjs_0, mjs_1, mjs_2, mjs_3, mjs_ble, true_and, Bool.false_eq_true, if_false, if_true, Nat.reduceAdd, Nat.reduceSub, Nat.reduceLeDiff, false_implies, true_implies, not_false_eq_true, not_true_eq_false, and_true, mm_sh, hm, mjs_up_at, mjs_up_c, mjs_up_f, (rr_d hJ).1.2.2.2]
  refine mj_blk rfl ?_
  simp +decide only [mjs_0, mjs_1, mjs_2, mjs_3, mjs_ble, true_and, Bool.false_eq_true, if_false, if_true, Nat.reduceAdd, Nat.reduceSub, Nat.reduceLeDiff, false_implies, true_implies, not_false_eq_true, not_true_eq_false, and_true, mm_sh, hm, mjs_up_at, mjs_up_c, mjs_up_f, eb, z3]
  refine ⟨nI_in (by omega) (by decide), fun _ => mj_blk rfl ?_, fun q => absurd (nI_le (a := z) (b := z) (Nat.le_refl _) (by omega)) q⟩
  simp +decide only [mjs_0, mjs_1, mjs_2, mjs_3, mjs_ble, true_and, Bool.false_eq_true, if_false, if_true, Nat.reduceAdd, Nat.reduceSub, Nat.reduceLeDiff, false_implies, true_implies, not_false_eq_true, not_true_eq_false, and_true, mm_sh, hm, mjs_up_at, mjs_up_c, mjs_up_f]
  refine mj_blk rfl ?_
  simp +decide only [mjs_0, mjs_1, mjs_2, mjs_3, mjs_ble, true_and, Bool.false_eq_true, if_false, if_true, Nat.reduceAdd, Nat.reduceSub, Nat.reduceLeDiff, false_implies, true_implies, not_false_eq_true, not_true_eq_false, and_true, mm_sh, hm, mjs_up_at, mjs_up_c, mjs_up_f, eb, j48]
  refine ⟨nI_in (by omega) (by decide), mj_blk rfl ?_⟩
  simp +decide only [mjs_0, mjs_1, mjs_2, mjs_3, mjs_ble, true_and, Bool.false_eq_true, if_false, if_true, Nat.reduceAdd, Nat.reduceSub, Nat.reduceLeDiff, false_implies, true_implies, not_false_eq_true, not_true_eq_false, and_true, mm_sh, hm, mjs_up_at, mjs_up_c, mjs_up_f, eb, z4, m1_eq]
  refine ⟨nI_in (by omega) (by decide), mj_blk rfl ?_⟩
  simp +decide only [mjs_0, mjs_1, mjs_2, mjs_3, mjs_ble, true_and, Bool.false_eq_true, if_false, if_true, Nat.reduceAdd, Nat.reduceSub, Nat.reduceLeDiff, false_implies, true_implies, not_false_eq_true, not_true_eq_false, and_true, mm_sh, hm, mjs_up_at, mjs_up_c, mjs_up_f, eb, z3]
  refine ⟨nI_in (by omega) (by decide), fun _ => mj_blk rfl ?_, fun q => absurd (m1_lt (a := z) (by omega)) q⟩
  simp +decide only [mjs_0, mjs_1, mjs_2, mjs_3, mjs_ble, true_and, Bool.false_eq_true, if_false, if_true, Nat.reduceAdd, Nat.reduceSub, Nat.reduceLeDiff, false_implies, true_implies, not_false_eq_true, not_true_eq_false, and_true, mm_sh, hm, mjs_up_at, mjs_up_c, mjs_up_f]
  exact hq
theorem pbb_mem {A : Nat → (Nat → Nat) × Nat} {bo e kt : Nat} (hv : gv (K, P, E, N, S, M, C, O, L)) (hA : gA N.2.2 kt A) (he : e ≤ M.2.2.2.1) (hk : ∀ i, bo ≤ i → i < e → 2097152 ≤ M.1 i → 2097153 ≤ M.1 i ∧ M.1 i - 2097153 < kt) : ∀ {n : Nat} {P : List Nat}, (∀ t ∈ P, tv N.2.2 t) → bo + n ≤ e → ∀ t ∈ pbb M.1 A bo n P, tv N.2.2 t := by
  intro n
  induction n with
  | zero => exact fun h _ => h
  | succ n ih =>
    intro P h hn
    refine ih (fun t ht => ?_) (by omega)
    have hp := (gv_d hv).2.2.2.2.1.2.2.2 (bo + n) (by omega)
    unfold bp at ht
    by_cases ep : 2097152 ≤ M.1 (bo + n)
    · rw [if_pos ep] at ht
      exact pba_mem (p := fun t => tv N.2.2 t) (fun i hi => hA _ (hk (bo + n) (by omega) (by omega) ep).2 i hi) h t ht
    · rw [if_neg ep] at ht
      rcases List.mem_cons.mp ht with rfl | ht
      · exact Or.inl ((pv_pl (gv_d hv).2.2.1.2.1 hp).2 (by omega))
      · exact h t ht
/-- expand at the deepest level -/
theorem xp_0 (hR : mj_Rt mp_R Rf) (hM' : mj_Rt mm_R Rf) : XP X Rf vb 4 5 0 := by
  have hr := mc_rf hR
  have hm := mm_rf hM'
  intro fb K P E N S M C O L t nc ns Lg I Q D hD hn hr' hv hw hp ht hgx h hQ1 hQ3
  obtain ⟨d, rfl⟩ : ∃ d, D = d + 4 := ⟨D - 4, by omega⟩
  have k5 := (rc_d h).1.2.2.2
  have tk : ∀ {H J : Nat → Nat → Int32} {Lg : Nat → Nat → Int64} {D nc ns : Nat} {Q : mj_Q} {g' : sg}, RD H g' J → (∀ J', RD H g' J' → Q (.inl none) (sh59, J', Lg, Rf, nc, ns)) → mj_rn X (mj_hd []) (mj_call X mj_P (mj_bi X) (D + 4)) mb_133 18 [some (.ref 36), some (.int (nI (rt t))), none] [] (sh59, J, Lg, Rf, nc, ns) Q := by
    intro H J Lg D nc ns Q g' c1 hq
    refine mj_blk rfl ?_
    simp +decide only [mjs_0, mjs_1, mjs_2, mjs_3, mjs_ble, true_and, Bool.false_eq_true, if_false, if_true, Nat.reduceAdd, Nat.reduceSub, Nat.reduceLeDiff, false_implies, true_implies, not_false_eq_true, not_true_eq_false, and_true, mm_sh, hm, mjs_up_at, mjs_up_c, mjs_up_f]
    refine ⟨fun q => absurd q (rd_nle c1), fun _ => mj_blk rfl ?_⟩
    simp +decide only [mjs_0, mjs_1, mjs_2, mjs_3, mjs_ble, true_and, Bool.false_eq_true, if_false, if_true, Nat.reduceAdd, Nat.reduceSub, Nat.reduceLeDiff, false_implies, true_implies, not_false_eq_true, not_true_eq_false, and_true, mm_sh, hm, mjs_up_at, mjs_up_c, mjs_up_f]
    exact hq J c1
  refine mj_enter (z := (3, [], mb_25)) (by decide) rfl rfl ?_
  refine mj_blk rfl ?_
  simp +decide only [mjs_0, mjs_1, mjs_2, mjs_3, mjs_ble, true_and, Bool.false_eq_true, if_false, if_true, Nat.reduceAdd, Nat.reduceSub, Nat.reduceLeDiff, false_implies, true_implies, not_false_eq_true, not_true_eq_false, and_true, mc_sh, hr, mjs_up_at, mjs_up_c, mjs_up_f]
  refine cq_77 h hv hr' (fun hlt I1 c1 => ?_) (fun he I1 c1 => ?_)
  · have k3 : I1 1 3 = nI K.2.2 := (rc_d c1).1.2.2.1
    have hv1 : gv ((K.1 + 1, K.2), P, E, N, S, M, C, O, L) := gv_K hv (gv_d hv).2.1
    simp +decide only [mjs_0, mjs_1, mjs_2, mjs_3, mjs_ble, true_and, Bool.false_eq_true, if_false, if_true, Nat.reduceAdd, Nat.reduceSub, Nat.reduceLeDiff, false_implies, true_implies, not_false_eq_true, not_true_eq_false, and_true, mc_sh, hr, mjs_up_at, mjs_up_c, mjs_up_f]
    refine c_78 (k := K.2.2) (by omega) k3 hr' (fun hh => absurd hh (by omega)) (fun _ => ?_)
    simp +decide only [mjs_0, mjs_1, mjs_2, mjs_3, mjs_ble, true_and, Bool.false_eq_true, if_false, if_true, Nat.reduceAdd, Nat.reduceSub, Nat.reduceLeDiff, false_implies, true_implies, not_false_eq_true, not_true_eq_false, and_true]
    refine hQ3 _ _ (rc_f hv1 c1) (ry_in (z := 3) (k := 4) (by decide) rfl rfl rfl ?_)
    intro H Lg d nc ns J Q hJ hA hq
    refine mj_blk rfl ?_
    simp +decide only [mjs_0, mjs_1, mjs_2, mjs_3, mjs_ble, true_and, Bool.false_eq_true, if_false, if_true, Nat.reduceAdd, Nat.reduceSub, Nat.reduceLeDiff, false_implies, true_implies, not_false_eq_true, not_true_eq_false, and_true, mm_sh, hm, mjs_up_at, mjs_up_c, mjs_up_f]
    refine rq_132 hM' hJ ⟨k5.1, k5.2.1⟩ (fun _ J1 e1 => ?_) (fun he => absurd he (by omega))
    have j38 : J1 36 38 = 40 := (rr_d e1).1.2.2.1.trans (by rw [show K.2.2 = 40 by omega]; rfl)
    simp +decide only [mjs_0, mjs_1, mjs_2, mjs_3, mjs_ble, true_and, Bool.false_eq_true, if_false, if_true, Nat.reduceAdd, Nat.reduceSub, Nat.reduceLeDiff, false_implies, true_implies, not_false_eq_true, not_true_eq_false, and_true, mm_sh, hm, mjs_up_at, mjs_up_c, mjs_up_f, j38]
    refine mj_blk rfl ?_
    simp +decide only [mjs_0, mjs_1, mjs_2, mjs_3, mjs_ble, true_and, Bool.false_eq_true, if_false, if_true, Nat.reduceAdd, Nat.reduceSub, Nat.reduceLeDiff, false_implies, true_implies, not_false_eq_true, not_true_eq_false, and_true, mm_sh, hm, mjs_up_at, mjs_up_c, mjs_up_f]
    refine c_106 s59_36 ?_
    rw [if_pos (rr_d e1).1.2.2.2]
    simp +decide only [mjs_0, mjs_1, mjs_2, mjs_3, mjs_ble, true_and, Bool.false_eq_true, if_false, if_true, Nat.reduceAdd, Nat.reduceSub, Nat.reduceLeDiff, false_implies, true_implies, not_false_eq_true, not_true_eq_false, and_true, mm_sh, hm, mjs_up_at, mjs_up_c, mjs_up_f]
    exact mj_nv (tk (rr_f (f := 3) (by decide) (by decide) e1) hq)
  · simp +decide only [mjs_0, mjs_1, mjs_2, mjs_3, mjs_ble, true_and, Bool.false_eq_true, if_false, if_true, Nat.reduceAdd, Nat.reduceSub, Nat.reduceLeDiff, false_implies, true_implies, not_false_eq_true, not_true_eq_false, and_true]
    refine hQ3 _ _ c1 (ry_in (z := 3) (k := 4) (by decide) rfl rfl rfl ?_)
    intro H Lg d nc ns J Q hJ hA hq
    refine mj_blk rfl ?_
    simp +decide only [mjs_0, mjs_1, mjs_2, mjs_3, mjs_ble, true_and, Bool.false_eq_true, if_false, if_true, Nat.reduceAdd, Nat.reduceSub, Nat.reduceLeDiff, false_implies, true_implies, not_false_eq_true, not_true_eq_false, and_true, mm_sh, hm, mjs_up_at, mjs_up_c, mjs_up_f]
    refine rq_132 hM' hJ ⟨k5.1, k5.2.1⟩ (fun hlt => absurd hlt (by omega)) (fun _ J1 e1 => ?_)
    simp +decide only [mjs_0, mjs_1, mjs_2, mjs_3, mjs_ble, true_and, Bool.false_eq_true, if_false, if_true, Nat.reduceAdd, Nat.reduceSub, Nat.reduceLeDiff, false_implies, true_implies, not_false_eq_true, not_true_eq_false, and_true, mm_sh, hm, mjs_up_at, mjs_up_c, mjs_up_f]
    refine ⟨fun _ => mj_nv (tk e1 hq), fun _ => mj_blk rfl ?_⟩
    simp +decide only [mjs_0, mjs_1, mjs_2, mjs_3, mjs_ble, true_and, Bool.false_eq_true, if_false, if_true, Nat.reduceAdd, Nat.reduceSub, Nat.reduceLeDiff, false_implies, true_implies, not_false_eq_true, not_true_eq_false, and_true, mm_sh, hm, mjs_up_at, mjs_up_c, mjs_up_f]
    refine f_106 s59_36 (rd_ne e1) ?_
    simp +decide only [mjs_0, mjs_1, mjs_2, mjs_3, mjs_ble, true_and, Bool.false_eq_true, if_false, if_true, Nat.reduceAdd, Nat.reduceSub, Nat.reduceLeDiff, false_implies, true_implies, not_false_eq_true, not_true_eq_false, and_true, mm_sh, hm, mjs_up_at, mjs_up_c, mjs_up_f]
    exact mj_nv (tk e1 hq)
/-- expand, one level up -/
theorem xp_s (hR : mj_Rt mp_R Rf) (hM' : mj_Rt mm_R Rf) (hT : X.2.1[0]? = some mj_t1) (hP : XP X Rf vb kc kr n) (hX : XD X Rf vb (kc + 1) (kr + 1) n) (hN : NU X Rf vb kc kr n) : XP X Rf vb (kc + 12) (kr + 18) (n + 1) := by
  have hr := mc_rf hR
  have hm := mm_rf hM'
  intro fb K P E N S M C O L t nc ns Lg I Q D hD hn hr' hv hw hp ht hgx h hQ1 hQ3
  obtain ⟨d, rfl⟩ : ∃ d, D = d + 12 := ⟨D - 12, by omega⟩
  have k5 := (rc_d h).1.2.2.2
  have hk40 : K.2.2 < 40 := by omega
  have hEv := (gv_d hv).2.1
  have hk : N.2.2 ≤ 1036 := (gv_d hv).2.2.1.2.1
  have hk1 : 36 ≤ N.2.2 := (gv_d hv).2.2.1.1
  have htl := tv_lt hk ht
  have rl := rt_lt hk hk1 ht
  have lt := gm_lt hv ht
  have gM := (gv_d hv).2.2.2.2.1
  have hlv : S.2.2.1 ≤ 100 := (gv_d hv).2.2.2.1.1
  have tk : ∀ {H J : Nat → Nat → Int32} {Lg : Nat → Nat → Int64} {D nc ns : Nat} {Q : mj_Q} {g' : sg}, RD H g' J → (∀ J', RD H g' J' → Q (.inl none) (sh59, J', Lg, Rf, nc, ns)) → mj_rn X (mj_hd []) (mj_call X mj_P (mj_bi X) (D + 17)) mb_133 18 [some (.ref 36), some (.int (nI (rt t))), none] [] (sh59, J, Lg, Rf, nc, ns) Q := by
    intro H J Lg D nc ns Q g' c1 hq
    refine mj_blk rfl ?_
    simp +decide only [mjs_0, mjs_1, mjs_2, mjs_3, mjs_ble, true_and, Bool.false_eq_true, if_false, if_true, Nat.reduceAdd, Nat.reduceSub, Nat.reduceLeDiff, false_implies, true_implies, not_false_eq_true, not_true_eq_false, and_true, mm_sh, hm, mjs_up_at, mjs_up_c, mjs_up_f]
    refine ⟨fun q => absurd q (rd_nle c1), fun _ => mj_blk rfl ?_⟩
    simp +decide only [mjs_0, mjs_1, mjs_2, mjs_3, mjs_ble, true_and, Bool.false_eq_true, if_false, if_true, Nat.reduceAdd, Nat.reduceSub, Nat.reduceLeDiff, false_implies, true_implies, not_false_eq_true, not_true_eq_false, and_true, mm_sh, hm, mjs_up_at, mjs_up_c, mjs_up_f]
    exact hq J c1
  -- behind a fault: one less open, then the end
  have t69 : ∀ {H J : Nat → Nat → Int32} {Lg : Nat → Nat → Int64} {D nc ns : Nat} {Q : mj_Q} {g' : sg}, RD H g' J → (∀ J', RD H g' J' → Q (.inl none) (sh59, J', Lg, Rf, nc, ns)) → mj_rn X (mj_hd []) (mj_call X mj_P (mj_bi X) (D + 17)) mb_133 69 [some (.ref 36), none, none] [] (sh59, J, Lg, Rf, nc, ns) Q := by
    intro H J Lg D nc ns Q g' c1 hq
    have c2 := rd_up (q := 38) (x := J 36 38 - 1) c1 (by decide)
    refine mj_blk rfl ?_
    simp +decide only [mjs_0, mjs_1, mjs_2, mjs_3, mjs_ble, true_and, Bool.false_eq_true, if_false, if_true, Nat.reduceAdd, Nat.reduceSub, Nat.reduceLeDiff, false_implies, true_implies, not_false_eq_true, not_true_eq_false, and_true, mm_sh, hm, mjs_up_at, mjs_up_c, mjs_up_f]
    refine ⟨fun _ => mj_blk rfl ?_, fun _ => mj_blk rfl ?_⟩
    · simp +decide only [mjs_0, mjs_1, mjs_2, mjs_3, mjs_ble, true_and, Bool.false_eq_true, if_false, if_true, Nat.reduceAdd, Nat.reduceSub, Nat.reduceLeDiff, false_implies, true_implies, not_false_eq_true, not_true_eq_false, and_true, mm_sh, hm, mjs_up_at, mjs_up_c, mjs_up_f]
      exact hq _ c2
    · simp +decide only [mjs_0, mjs_1, mjs_2, mjs_3, mjs_ble, true_and, Bool.false_eq_true, if_false, if_true, Nat.reduceAdd, Nat.reduceSub, Nat.reduceLeDiff, false_implies, true_implies, not_false_eq_true, not_true_eq_false, and_true, mm_sh, hm, mjs_up_at, mjs_up_c, mjs_up_f]
      refine f_106 s59_36 (rd_ne c2) ?_
      simp +decide only [mjs_0, mjs_1, mjs_2, mjs_3, mjs_ble, true_and, Bool.false_eq_true, if_false, if_true, Nat.reduceAdd, Nat.reduceSub, Nat.reduceLeDiff, false_implies, true_implies, not_false_eq_true, not_true_eq_false, and_true, mm_sh, hm, mjs_up_at, mjs_up_c, mjs_up_f]
      refine mj_blk rfl ?_
      simp +decide only [mjs_0, mjs_1, mjs_2, mjs_3, mjs_ble, true_and, Bool.false_eq_true, if_false, if_true, Nat.reduceAdd, Nat.reduceSub, Nat.reduceLeDiff, false_implies, true_implies, not_false_eq_true, not_true_eq_false, and_true, mm_sh, hm, mjs_up_at, mjs_up_c, mjs_up_f]
      exact hq _ c2
  have qF : ∀ g' I', RCf fb vb g' I' → RMf X Rf mb_133 (kr + 17) 0 [some (.ref 36), some (.int (nI (rt t))), none] [] (K, P, E, N, S, M, C, O, L) na none g' → Q (.inr 500) (sh59, I', Lg, Rf, nc + 1, ns + 6) := fun g' I' a1 a2 => hQ3 g' I' a1 (ry_in (z := 3) (by decide) rfl rfl rfl a2)
  refine mj_enter (z := (3, [], mb_25)) (by decide) rfl rfl ?_
  refine mj_blk rfl ?_
  simp +decide only [mjs_0, mjs_1, mjs_2, mjs_3, mjs_ble, true_and, Bool.false_eq_true, if_false, if_true, Nat.reduceAdd, Nat.reduceSub, Nat.reduceLeDiff, false_implies, true_implies, not_false_eq_true, not_true_eq_false, and_true, mc_sh, hr, mjs_up_at, mjs_up_c, mjs_up_f]
  refine cq_77 h hv hr' (fun hlt I1 c1 => ?_) (fun he I1 c1 => ?_)
  · have k3 : I1 1 3 = nI K.2.2 := (rc_d c1).1.2.2.1
    have c2 := rc_K (dp := K.2.2 + 1) c1 (by omega)
    have hv1 : gv ((K.1 + 1, K.2.1, K.2.2 + 1), P, E, N, S, M, C, O, L) := gv_K hv (em_vm hEv (Nat.le_succ _))
    have hw1 : gw (K.1 + 1, K.2.1, K.2.2 + 1) S := ⟨Nat.le_succ_of_le hw.1, hw.2⟩
    have hgm := cm_gm (S := S) (rc_d c2).2.2.2.2.1 hv1 ht
    -- the reference to its meaning
    have r26 : ∀ {H J : Nat → Nat → Int32} {Lg : Nat → Nat → Int64} {D nc ns : Nat} {Q : mj_Q}, RR H (K, P, E, N, S, M, C, O, L) J → (∀ J1, RR H ((K.1 + 1, K.2.1, K.2.2 + 1), P, E, N, S, M, C, O, L) J1 → (100000 ≤ mr_me J1 36 S.2.2.1 (rt t) → mj_rn X (mj_hd []) (mj_call X mj_P (mj_bi X) (D + 17)) mb_133 48 [some (.ref 36), none, some (.int (mr_me J1 36 S.2.2.1 (rt t)))] [] (sh59, J1, Lg, Rf, nc, ns) Q) ∧ (¬ 100000 ≤ mr_me J1 36 S.2.2.1 (rt t) → mj_rn X (mj_hd []) (mj_call X mj_P (mj_bi X) (D + 17)) mb_133 59 [some (.ref 36), some (.int (nI (rt t))), some (.int (mr_me J1 36 S.2.2.1 (rt t)))] [] (sh59, J1, Lg, Rf, nc, ns) Q)) → mj_rn X (mj_hd []) (mj_call X mj_P (mj_bi X) (D + 17)) mb_133 0 [some (.ref 36), some (.int (nI (rt t))), none] [] (sh59, J, Lg, Rf, nc, ns) Q := by
      intro H J Lg D nc ns Q hJ hq
      refine mj_blk rfl ?_
      simp +decide only [mjs_0, mjs_1, mjs_2, mjs_3, mjs_ble, true_and, Bool.false_eq_true, if_false, if_true, Nat.reduceAdd, Nat.reduceSub, Nat.reduceLeDiff, false_implies, true_implies, not_false_eq_true, not_true_eq_false, and_true, mm_sh, hm, mjs_up_at, mjs_up_c, mjs_up_f]
      refine rq_132 hM' hJ ⟨k5.1, k5.2.1⟩ (fun _ J1 e1 => ?_) (fun he => absurd he (by omega))
      have j38 : J1 36 38 = nI K.2.2 := (rr_d e1).1.2.2.1
      have ne : ¬ nI K.2.2 = 40 := fun q => absurd ((nI_eq (b := 40) (by omega) (by decide)).mp q) (by omega)
      simp +decide only [mjs_0, mjs_1, mjs_2, mjs_3, mjs_ble, true_and, Bool.false_eq_true, if_false, if_true, Nat.reduceAdd, Nat.reduceSub, Nat.reduceLeDiff, false_implies, true_implies, not_false_eq_true, not_true_eq_false, and_true, mm_sh, hm, mjs_up_at, mjs_up_c, mjs_up_f, j38]
      refine ⟨fun _ => mj_blk rfl ?_, fun q => absurd ne q⟩
      simp +decide only [mjs_0, mjs_1, mjs_2, mjs_3, mjs_ble, true_and, Bool.false_eq_true, if_false, if_true, Nat.reduceAdd, Nat.reduceSub, Nat.reduceLeDiff, false_implies, true_implies, not_false_eq_true, not_true_eq_false, and_true, mm_sh, hm, mjs_up_at, mjs_up_c, mjs_up_f, (rr_d e1).1.2.2.2]
      refine mj_blk rfl ?_
      have e2 := rr_K (dp := K.2.2 + 1) e1
      have me := rr_me e2 hv1 ht
      have hq2 := hq _ e2
      simp +decide only [mjs_0, mjs_1, mjs_2, mjs_3, mjs_ble, true_and, Bool.false_eq_true, if_false, if_true, Nat.reduceAdd, Nat.reduceSub, Nat.reduceLeDiff, false_implies, true_implies, not_false_eq_true, not_true_eq_false, and_true, mm_sh, hm, mjs_up_at, mjs_up_c, mjs_up_f, j38, nI_1]
      refine r_125 (mm_W hM') (by omega) (rr_d e2).2.2.2.2.1.1 (rr_d e2).2.2.2.2.1.2.2.2.2 me.2.1 ?_
      simp +decide only [mjs_0, mjs_1, mjs_2, mjs_3, mjs_ble, true_and, Bool.false_eq_true, if_false, if_true, Nat.reduceAdd, Nat.reduceSub, Nat.reduceLeDiff, false_implies, true_implies, not_false_eq_true, not_true_eq_false, and_true, mm_sh, hm, mjs_up_at, mjs_up_c, mjs_up_f]
      exact ⟨fun q => mj_nv (hq2.2 (Int32.not_le.mpr q)), fun q => mj_nv (hq2.1 (Int32.not_lt.mp q))⟩
    -- the end of both
    have fin : ∀ (fb2 : Nat → Nat → Int32) (K2 : Nat × Nat × Nat) (P2 : List Nat) (N2 : sgN) (S2 : sgS) (C2 : sgC) (L2 : sgL) (I2 : Nat → Nat → Int32), gv (K2, P2, E, N2, S2, M, C2, O, L2) → RC fb2 vb (K2, P2, E, N2, S2, M, C2, O, L2) I2 → P2.length ≤ 10060 → xr K.1 (K.1 + 1, K.2.1, K.2.2 + 1) N S C L K2 N2 S2 C2 L2 → RM X Rf mb_133 (kr + 17) 0 [some (.ref 36), some (.int (nI (rt t))), none] [] (K, P, E, N, S, M, C, O, L) na 69 [some (.ref 36), none, none] [] (K2, P2, E, N2, S2, M, C2, O, L2) na → mj_rn X (mj_hd []) (mj_call X mj_P (mj_bi X) (d + 11)) mb_25 65 [some (.ref 28), none, none] [] (sh59, I2, Lg, Rf, nc, ns) Q := by
      intro fb2 K2 P2 N2 S2 C2 L2 I2 a1 a2 a3 a4 hM
      have hK2 := a4.2.1.2
      have hK3 : (K2.2.1, K.2.2) = K.2 := by
        rw [hK2]
      have i3 : I2 1 3 = nI (K.2.2 + 1) := by
        have := (rc_d a2).1.2.2.1
        rw [hK2] at this
        exact this
      have a2' := rc_K (dp := K.2.2) a2 (by omega)
      have i8 : mj_up I2 1 3 (nI K.2.2) 17 8 = nI P2.length := (rc_d a2').2.1.1
      have hv3 : gv ((K2.1, K2.2.1, K.2.2), P2, E, N2, S2, M, C2, O, L2) := gv_K a1 hEv
      have r89 : ∀ {H J : Nat → Nat → Int32} {Lg : Nat → Nat → Int64} {D nc ns : Nat} {Q : mj_Q}, RR H (K2, P2, E, N2, S2, M, C2, O, L2) J → (∀ J1, RR H ((K2.1, K2.2.1, K.2.2), P2, E, N2, S2, M, C2, O, L2) J1 → (P2.length ≤ 10000 → Q (.inl none) (sh59, J1, Lg, Rf, nc, ns)) ∧ (¬ P2.length ≤ 10000 → mj_rn X (mj_hd []) (mj_call X mj_P (mj_bi X) (D + 17)) mb_133 89 [some (.ref 36), none, none] [] (sh59, J1, Lg, Rf, nc, ns) Q)) → mj_rn X (mj_hd []) (mj_call X mj_P (mj_bi X) (D + 17)) mb_133 69 [some (.ref 36), none, none] [] (sh59, J, Lg, Rf, nc, ns) Q := by
        intro H J Lg D nc ns Q hJ hq
        have j38 : J 36 38 = nI (K.2.2 + 1) := by
          have := (rr_d hJ).1.2.2.1
          rw [hK2] at this
          exact this
        have e1 := rr_K (dp := K.2.2) hJ
        have j29 : J 36 29 = nI P2.length := (rr_d hJ).2.1.1
        have hq2 := hq _ e1
        refine mj_blk rfl ?_
        simp +decide only [mjs_0, mjs_1, mjs_2, mjs_3, mjs_ble, true_and, Bool.false_eq_true, if_false, if_true, Nat.reduceAdd, Nat.reduceSub, Nat.reduceLeDiff, false_implies, true_implies, not_false_eq_true, not_true_eq_false, and_true, mm_sh, hm, mjs_up_at, mjs_up_c, mjs_up_f, j38, nI_pred, j29]
        by_cases hle : P2.length ≤ 10000
        · refine ⟨fun _ => mj_blk rfl ?_, fun q => absurd (nI_le (a := P2.length) (b := 10000) hle (by decide)) q⟩
          simp +decide only [mjs_0, mjs_1, mjs_2, mjs_3, mjs_ble, true_and, Bool.false_eq_true, if_false, if_true, Nat.reduceAdd, Nat.reduceSub, Nat.reduceLeDiff, false_implies, true_implies, not_false_eq_true, not_true_eq_false, and_true, mm_sh, hm, mjs_up_at, mjs_up_c, mjs_up_f]
          exact hq2.1 hle
        · exact ⟨fun q => absurd q (nI_ge (a := 10000) (b := P2.length) (by omega) (by omega)), fun _ => mj_nv (hq2.2 hle)⟩
      refine mj_blk rfl ?_
      simp +decide only [mjs_0, mjs_1, mjs_2, mjs_3, mjs_ble, true_and, Bool.false_eq_true, if_false, if_true, Nat.reduceAdd, Nat.reduceSub, Nat.reduceLeDiff, false_implies, true_implies, not_false_eq_true, not_true_eq_false, and_true, mc_sh, hr, mjs_up_at, mjs_up_c, mjs_up_f]
      refine c_79 i3 ?_
      have i8' : I2 17 8 = nI P2.length := (rc_d a2).2.1.1
      simp +decide only [mjs_0, mjs_1, mjs_2, mjs_3, mjs_ble, true_and, Bool.false_eq_true, if_false, if_true, Nat.reduceAdd, Nat.reduceSub, Nat.reduceLeDiff, false_implies, true_implies, not_false_eq_true, not_true_eq_false, and_true, mc_sh, hr, mjs_up_at, mjs_up_c, mjs_up_f, i8']
      by_cases hle : P2.length ≤ 10000
      · refine ⟨fun _ => mj_blk rfl ?_, fun q => absurd (nI_le (a := P2.length) (b := 10000) hle (by decide)) q⟩
        simp +decide only [mjs_0, mjs_1, mjs_2, mjs_3, mjs_ble, true_and, Bool.false_eq_true, if_false, if_true, Nat.reduceAdd, Nat.reduceSub, Nat.reduceLeDiff, false_implies, true_implies, not_false_eq_true, not_true_eq_false, and_true]
        have kk : K.1 < K2.1 := a4.2.1.1
        have k52 := (rc_d a2).1.2.2.2
        have hmu : mu (K2.1, K2.2.1, K.2.2) P2 L2 + 1 ≤ mu K P L := mu_tick (K := K) (K' := (K2.1, K2.2.1, K.2.2)) k5.1 kk hK3 k52.1 (by omega) (tl_le (gv_d a1).2.2.2.2.2.2.2)
        refine hQ1 fb2 (K2.1, K2.2.1, K.2.2) P2 N2 S2 C2 L2 _ hv3 a2' kk hle ⟨a4.1, ⟨Nat.le_of_lt kk, hK3⟩, by omega, a4.2.2.1, a4.2.2.2.1, a4.2.2.2.2⟩ (rx_in (z := 3) (by decide) rfl rfl rfl (rm_e hM ?_))
        intro H Lg d nc ns J Q hJ hA hq
        obtain ⟨D, hD, hDk⟩ : ∃ D, d + (kr + 17) = D + 17 ∧ kr ≤ D := ⟨d + kr, by omega, by omega⟩
        rw [hD]
        try rw [hD] at hq
        exact r89 hJ (fun J1 e1 => ⟨fun _ => hq H J1 hx_rf e1 trivial, fun hh => absurd hle hh⟩)
      · refine ⟨fun q => absurd q (nI_ge (a := 10000) (b := P2.length) (by omega) (by omega)), fun _ => mj_blk rfl ?_⟩
        simp +decide only [mjs_0, mjs_1, mjs_2, mjs_3, mjs_ble, true_and, Bool.false_eq_true, if_false, if_true, Nat.reduceAdd, Nat.reduceSub, Nat.reduceLeDiff, false_implies, true_implies, not_false_eq_true, not_true_eq_false, and_true, mc_sh, hr, mjs_up_at, mjs_up_c, mjs_up_f]
        refine c_80 s59_1 hr' ?_
        simp +decide only [mjs_0, mjs_1, mjs_2, mjs_3, mjs_ble, true_and, Bool.false_eq_true, if_false, if_true, Nat.reduceAdd, Nat.reduceSub, Nat.reduceLeDiff, false_implies, true_implies, not_false_eq_true, not_true_eq_false, and_true]
        refine qF _ _ (rc_f (fb := fb2) hv3 a2') (rm_f hM ?_)
        intro H Lg d nc ns J Q hJ hA hq
        obtain ⟨D, hD, hDk⟩ : ∃ D, d + (kr + 17) = D + 17 ∧ kr ≤ D := ⟨d + kr, by omega, by omega⟩
        rw [hD]
        try rw [hD] at hq
        refine r89 hJ (fun J1 e1 => ⟨fun hh => absurd hh hle, fun _ => ?_⟩)
        refine mj_blk rfl ?_
        simp +decide only [mjs_0, mjs_1, mjs_2, mjs_3, mjs_ble, true_and, Bool.false_eq_true, if_false, if_true, Nat.reduceAdd, Nat.reduceSub, Nat.reduceLeDiff, false_implies, true_implies, not_false_eq_true, not_true_eq_false, and_true, mm_sh, hm, mjs_up_at, mjs_up_c, mjs_up_f]
        refine c_106 s59_36 ?_
        rw [if_pos (rr_d e1).1.2.2.2]
        simp +decide only [mjs_0, mjs_1, mjs_2, mjs_3, mjs_ble, true_and, Bool.false_eq_true, if_false, if_true, Nat.reduceAdd, Nat.reduceSub, Nat.reduceLeDiff, false_implies, true_implies, not_false_eq_true, not_true_eq_false, and_true, mm_sh, hm, mjs_up_at, mjs_up_c, mjs_up_f]
        refine mj_blk rfl ?_
        simp +decide only [mjs_0, mjs_1, mjs_2, mjs_3, mjs_ble, true_and, Bool.false_eq_true, if_false, if_true, Nat.reduceAdd, Nat.reduceSub, Nat.reduceLeDiff, false_implies, true_implies, not_false_eq_true, not_true_eq_false, and_true, mm_sh, hm, mjs_up_at, mjs_up_c, mjs_up_f]
        exact hq _ (rr_f (f := 2) (by decide) (by decide) e1)
    simp +decide only [mjs_0, mjs_1, mjs_2, mjs_3, mjs_ble, true_and, Bool.false_eq_true, if_false, if_true, Nat.reduceAdd, Nat.reduceSub, Nat.reduceLeDiff, false_implies, true_implies, not_false_eq_true, not_true_eq_false, and_true, mc_sh, hr, mjs_up_at, mjs_up_c, mjs_up_f]
    refine c_78 (k := K.2.2) (by omega) k3 hr' (fun _ => ?_) (fun e => absurd e (by omega))
    simp +decide only [mjs_0, mjs_1, mjs_2, mjs_3, mjs_ble, true_and, Bool.false_eq_true, if_false, if_true, Nat.reduceAdd, Nat.reduceSub, Nat.reduceLeDiff, false_implies, true_implies, not_false_eq_true, not_true_eq_false, and_true, mc_sh, hr, mjs_up_at, mjs_up_c, mjs_up_f]
    refine cq_96 hR c2 hv1 ht ?_
    simp +decide only [mjs_0, mjs_1, mjs_2, mjs_3, mjs_ble, true_and, Bool.false_eq_true, if_false, if_true, Nat.reduceAdd, Nat.reduceSub, Nat.reduceLeDiff, false_implies, true_implies, not_false_eq_true, not_true_eq_false, and_true, mc_sh, hr, mjs_up_at, mjs_up_c, mjs_up_f]
    refine c_93 (by omega) ?_
    simp +decide only [mjs_0, mjs_1, mjs_2, mjs_3, mjs_ble, true_and, Bool.false_eq_true, if_false, if_true, Nat.reduceAdd, Nat.reduceSub, Nat.reduceLeDiff, false_implies, true_implies, not_false_eq_true, not_true_eq_false, and_true]
    by_cases e2 : gm S t / 65536 = 2
    · -- a macro
      obtain ⟨ma, mb⟩ := gm_mac hv ht e2
      generalize hga : gm S t % 65536 = a at *
      have gMa := gM.2.1 a ma
      obtain ⟨q1, q2, q3, q4, q5, q6, q7⟩ := gMa
      have hu2 : M.2.2.2.1 ≤ 10000 := gM.2.2.1.2.1
      -- the reference's number of it
      have refb : ∀ {H J1 : Nat → Nat → Int32}, RR H ((K.1 + 1, K.2.1, K.2.2 + 1), P, E, N, S, M, C, O, L) J1 → ∃ b, b < 30001 ∧ mr_me J1 36 S.2.2.1 (rt t) = nI (100000 + b) ∧ mq M (J1 48) (J1 49) (J1 50) (J1 51) a b := by
        intro H J1 e1
        rcases mw_n gM (by omega) (rr_me e1 hv1 ht).1 with ⟨z, y⟩ | ⟨p, p1, p2, z, y⟩ | ⟨a', b, z, b1, y, q⟩ | ⟨c, c1, z, y⟩ | ⟨m, m1, z, y⟩
        · omega
        · omega
        · have : a' = a := by omega
          subst this
          exact ⟨b, b1, y, q⟩
        · omega
        · omega
      simp +decide only [mjs_0, mjs_1, mjs_2, mjs_3, mjs_ble, true_and, Bool.false_eq_true, if_false, if_true, Nat.reduceAdd, Nat.reduceSub, Nat.reduceLeDiff, false_implies, true_implies, not_false_eq_true, not_true_eq_false, and_true, e2]
      refine mj_blk rfl ?_
      simp +decide only [mjs_0, mjs_1, mjs_2, mjs_3, mjs_ble, true_and, Bool.false_eq_true, if_false, if_true, Nat.reduceAdd, Nat.reduceSub, Nat.reduceLeDiff, false_implies, true_implies, not_false_eq_true, not_true_eq_false, and_true, mc_sh, hr, mjs_up_at, mjs_up_c, mjs_up_f]
      refine c_94 ?_
      rw [hga]
      by_cases ha0 : a = 0
      · -- the empty one
        subst ha0
        simp +decide only [mjs_0, mjs_1, mjs_2, mjs_3, mjs_ble, true_and, Bool.false_eq_true, if_false, if_true, Nat.reduceAdd, Nat.reduceSub, Nat.reduceLeDiff, false_implies, true_implies, not_false_eq_true, not_true_eq_false, and_true, mc_sh, hr, mjs_up_at, mjs_up_c, mjs_up_f]
        refine c_10z hR hv1 c2 (fun I2 c3 => ?_)
        simp +decide only [mjs_0, mjs_1, mjs_2, mjs_3, mjs_ble, true_and, Bool.false_eq_true, if_false, if_true, Nat.reduceAdd, Nat.reduceSub, Nat.reduceLeDiff, false_implies, true_implies, not_false_eq_true, not_true_eq_false, and_true, mc_sh, hr, mjs_up_at, mjs_up_c, mjs_up_f]
        refine c_94 ?_
        rw [hga]
        simp +decide only [mjs_0, mjs_1, mjs_2, mjs_3, mjs_ble, true_and, Bool.false_eq_true, if_false, if_true, Nat.reduceAdd, Nat.reduceSub, Nat.reduceLeDiff, false_implies, true_implies, not_false_eq_true, not_true_eq_false, and_true, mc_sh, hr, mjs_up_at, mjs_up_c, mjs_up_f]
        have hbl : bl M.1 (fun _ => (fun _ => 0, 0)) (M.2.2.1 0) (M.2.1 (0 + 1) - M.2.2.1 0) = 0 := by
          have z1 : M.2.1 (0 + 1) = 0 := gM.1.2.2.1
          rw [z1, gM.1.2.2.2]
          rfl
        have hpb : pbb M.1 (fun _ => (fun _ => 0, 0)) (M.2.2.1 0) (M.2.1 (0 + 1) - M.2.2.1 0) P = P := by
          have z1 : M.2.1 (0 + 1) = 0 := gM.1.2.2.1
          rw [z1, gM.1.2.2.2]
          rfl
        have z0 : np M.1 (M.2.1 0) (M.2.2.1 0 - M.2.1 0) = 0 := by
          rw [gM.1.2.1, gM.1.2.2.2]
          rfl
        refine cq_15 (kt := 0) (A := fun _ => (fun _ => 0, 0)) (fi := 0) hR hv1 c3 hr' ma (by omega) z0.symm ⟨rfl, fun k hk => absurd hk (Nat.not_lt_zero _)⟩ (by decide) (fun hle I3 c4 => ?_) (fun hgt => ?_)
        · rw [hpb] at c4
          simp +decide only [mjs_0, mjs_1, mjs_2, mjs_3, mjs_ble, true_and, Bool.false_eq_true, if_false, if_true, Nat.reduceAdd, Nat.reduceSub, Nat.reduceLeDiff, false_implies, true_implies, not_false_eq_true, not_true_eq_false, and_true]
          refine mj_nv (fin _ (K.1 + 1, K.2.1, K.2.2 + 1) P N S C L I3 hv1 c4 (by omega) ⟨nx_rf, ⟨Nat.le_refl _, rfl⟩, Nat.le_refl _, ⟨rfl, by show S.2.2.2 + K.1 ≤ S.2.2.2 + (K.1 + 1); omega, rfl, fun _ _ _ _ => rfl, fun _ _ => Or.inl rfl⟩, cx_rf⟩ ?_)
          intro H Lg d nc ns J Q hJ hA hq
          obtain ⟨D, hD, hDk⟩ : ∃ D, d + (kr + 17) = D + 17 ∧ kr ≤ D := ⟨d + kr, by omega, by omega⟩
          rw [hD]
          try rw [hD] at hq
          refine r26 hJ (fun J1 e1 => ?_)
          obtain ⟨b, b1, b2, b3⟩ := refb e1
          have hq2 := hq H J1 hx_rf e1 trivial
          rw [b2]
          have eb : nI (100000 + b) - 100000 = nI b := by
            rw [show (100000 : Int32) = nI 100000 from rfl, pk_sub (by omega), Nat.add_sub_cancel_left]
          refine ⟨fun _ => ?_, fun q => absurd (nI_le (a := 100000) (b := 100000 + b) (by omega) (by omega)) q⟩
          refine mj_blk rfl ?_
          simp +decide only [mjs_0, mjs_1, mjs_2, mjs_3, mjs_ble, true_and, Bool.false_eq_true, if_false, if_true, Nat.reduceAdd, Nat.reduceSub, Nat.reduceLeDiff, false_implies, true_implies, not_false_eq_true, not_true_eq_false, and_true, mm_sh, hm, mjs_up_at, mjs_up_c, mjs_up_f, eb]
          refine r_142z hM' e1 b1 b3 ?_
          simp +decide only [mjs_0, mjs_1, mjs_2, mjs_3, mjs_ble, true_and, Bool.false_eq_true, if_false, if_true, Nat.reduceAdd, Nat.reduceSub, Nat.reduceLeDiff, false_implies, true_implies, not_false_eq_true, not_true_eq_false, and_true, mm_sh, hm, mjs_up_at, mjs_up_c, mjs_up_f]
          exact mj_nv hq2
        · rw [hbl] at hgt
          omega
      · -- another one
        have mcb : ∀ {H J1 : Nat → Nat → Int32} {b : Nat}, RR H ((K.1 + 1, K.2.1, K.2.2 + 1), P, E, N, S, M, C, O, L) J1 → b < 30001 → mq M (J1 48) (J1 49) (J1 50) (J1 51) a b → mcB (M.2.1 a) (M.2.2.1 a) (M.2.1 (a + 1)) (np M.1 (M.2.1 a) (M.2.2.1 a - M.2.1 a)) b H := by
          intro H J1 b e1 b1 b3
          obtain ⟨y1, y2, y3, y4⟩ := b3.2.2.1 ha0
          have hZ := (rr_d e1).2.2.2.2.2.2.2.2.2
          unfold mcB
          rw [← hZ 48 (by omega), ← hZ 49 (by omega), ← hZ 50 (by omega), ← hZ 51 (by omega)]
          exact ⟨b1, y1, y2, y3, y4⟩
        simp +decide only [mjs_0, mjs_1, mjs_2, mjs_3, mjs_ble, true_and, Bool.false_eq_true, if_false, if_true, Nat.reduceAdd, Nat.reduceSub, Nat.reduceLeDiff, false_implies, true_implies, not_false_eq_true, not_true_eq_false, and_true, mc_sh, hr, mjs_up_at, mjs_up_c, mjs_up_f]
        refine p_10 hR hM' hr' ma hv1 c2 (by omega) (fun A fi fb2 P2 N2 L2 I2 a1 a2 a3 a4 a5 a6 a7 => ?_) (fun g2 I2 a1 a2 => ?_)
        · simp +decide only [mjs_0, mjs_1, mjs_2, mjs_3, mjs_ble, true_and, Bool.false_eq_true, if_false, if_true, Nat.reduceAdd, Nat.reduceSub, Nat.reduceLeDiff, false_implies, true_implies, not_false_eq_true, not_true_eq_false, and_true, mc_sh, hr, mjs_up_at, mjs_up_c, mjs_up_f]
          refine c_94 ?_
          rw [hga]
          simp +decide only [mjs_0, mjs_1, mjs_2, mjs_3, mjs_ble, true_and, Bool.false_eq_true, if_false, if_true, Nat.reduceAdd, Nat.reduceSub, Nat.reduceLeDiff, false_implies, true_implies, not_false_eq_true, not_true_eq_false, and_true, mc_sh, hr, mjs_up_at, mjs_up_c, mjs_up_f]
          have a32 := a3.2
          have hkb : ∀ i, M.2.2.1 a ≤ i → i < M.2.1 (a + 1) → 2097152 ≤ M.1 i → 2097153 ≤ M.1 i ∧ M.1 i - 2097153 < np M.1 (M.2.1 a) (M.2.2.1 a - M.2.1 a) := fun i h1 h2 h3 => by
            have := q6 i h1 h2 h3
            rcases gM.2.2.2 i (by omega) with hh | hh
            · have := tb_lt hk hh
              omega
            · omega
          have hlen := pbb_len (pool := M.1) (A := A) (bo := M.2.2.1 a) (n := M.2.1 (a + 1) - M.2.2.1 a) (P := P2)
          have hk2 : N2.2.2 ≤ 1036 := (gv_d a1).2.2.1.2.1
          -- the reference through the call
          have r142 : ∀ {H J1 : Nat → Nat → Int32} {Lg : Nat → Nat → Int64} {D nc ns b : Nat} {Q : mj_Q}, RR H ((K.1 + 1, K.2.1, K.2.2 + 1), P, E, N, S, M, C, O, L) J1 → b < 30001 → mq M (J1 48) (J1 49) (J1 50) (J1 51) a b → (∀ H2 J2, hx H H2 → (pbb M.1 A (M.2.2.1 a) (M.2.1 (a + 1) - M.2.2.1 a) P2).length ≤ 10001 → RR H2 ((K.1 + 1, K.2.1, K.2.2 + 1), pbb M.1 A (M.2.2.1 a) (M.2.1 (a + 1) - M.2.2.1 a) P2, E, N2, S, M, C, O, L2) J2 → Q (.inl none) (sh59, J2, Lg, Rf, nc, ns)) → (∀ J2, 10001 < (pbb M.1 A (M.2.2.1 a) (M.2.1 (a + 1) - M.2.2.1 a) P2).length → RD H ((K.1 + 1, K.2.1, K.2.2 + 1), P2, E, N2, S, M, C, O, L2) J2 → Q (.inl none) (sh59, J2, Lg, Rf, nc, ns)) → mj_call X mj_P (mj_bi X) (D + 8) 142 [.ref 36, .int (nI b)] (sh59, J1, Lg, Rf, nc, ns) Q := by
            intro H J1 Lg D nc ns b Q e1 b1 b3 hq1 hq0
            have eb : (nI b).toNatClampNeg = b := nI_clamp (by omega)
            refine mj_enter (z := (6, [], mb_142)) (by decide) rfl rfl ?_
            refine a7 b b1 H Lg D nc ns J1 Q e1 (mcb e1 b1 b3) (fun H2 J2 x1 e2 x3 => ?_)
            have j51 : J2 51 b = nI (M.2.1 (a + 1)) := (congrFun ((rr_d e2).2.2.2.2.2.2.2.2.2 51 (by omega)) b).trans x3.1.2.2.2.1
            unfold k_0
            refine mj_blk rfl ?_
            simp +decide only [mjs_0, mjs_1, mjs_2, mjs_3, mjs_ble, true_and, Bool.false_eq_true, if_false, if_true, Nat.reduceAdd, Nat.reduceSub, Nat.reduceLeDiff, false_implies, true_implies, not_false_eq_true, not_true_eq_false, and_true, mm_sh, hm, mjs_up_at, mjs_up_c, mjs_up_f, eb, j51, m1_eq]
            refine ⟨nI_in (by omega) (by decide), ?_⟩
            have z := r_142b (d := D) (n := M.2.1 (a + 1) - M.2.2.1 a) (Q := Q) (Lg := Lg) (nc := nc) (ns := ns) (X := X) (Rf := Rf) hM' a1 a6 x3 q5 q3 hkb P2 J2 (by omega) (by omega) e2 (fun hl J3 e3 => hq1 H2 J3 x1 hl e3) (fun hl J3 e3 => hq0 J3 hl (rd_hx e3 x1))
            rw [show M.2.2.1 a + (M.2.1 (a + 1) - M.2.2.1 a) = M.2.1 (a + 1) by omega] at z
            exact mj_nv z
          refine cq_15 (A := A) (fi := fi) hR a1 a2 hr' ma (by omega) rfl a4 a5 (fun hle I3 c4 => ?_) (fun hgt I3 c4 => ?_)
          · have hv3 : gv ((K.1 + 1, K.2.1, K.2.2 + 1), pbb M.1 A (M.2.2.1 a) (M.2.1 (a + 1) - M.2.2.1 a) P2, E, N2, S, M, C, O, L2) := gv_P a1 (pbb_mem a1 a6 q3 hkb (gv_d a1).1 (by omega))
            simp +decide only [mjs_0, mjs_1, mjs_2, mjs_3, mjs_ble, true_and, Bool.false_eq_true, if_false, if_true, Nat.reduceAdd, Nat.reduceSub, Nat.reduceLeDiff, false_implies, true_implies, not_false_eq_true, not_true_eq_false, and_true]
            refine mj_nv (fin fb2 (K.1 + 1, K.2.1, K.2.2 + 1) _ N2 S C L2 I3 hv3 c4 (by omega) ⟨a3.1, ⟨Nat.le_refl _, rfl⟩, a3.2.2.2, ⟨rfl, by show S.2.2.2 + K.1 ≤ S.2.2.2 + (K.1 + 1); omega, rfl, fun _ _ _ _ => rfl, fun _ _ => Or.inl rfl⟩, cx_rf⟩ ?_)
            intro H Lg d nc ns J Q hJ hA hq
            obtain ⟨D, hD, hDk⟩ : ∃ D, d + (kr + 17) = D + 17 ∧ kr ≤ D := ⟨d + kr, by omega, by omega⟩
            rw [hD]
            try rw [hD] at hq
            refine r26 hJ (fun J1 e1 => ?_)
            obtain ⟨b, b1, b2, b3⟩ := refb e1
            rw [b2]
            have eb : nI (100000 + b) - 100000 = nI b := by
              rw [show (100000 : Int32) = nI 100000 from rfl, pk_sub (by omega), Nat.add_sub_cancel_left]
            refine ⟨fun _ => ?_, fun q => absurd (nI_le (a := 100000) (b := 100000 + b) (by omega) (by omega)) q⟩
            refine mj_blk rfl ?_
            simp +decide only [mjs_0, mjs_1, mjs_2, mjs_3, mjs_ble, true_and, Bool.false_eq_true, if_false, if_true, Nat.reduceAdd, Nat.reduceSub, Nat.reduceLeDiff, false_implies, true_implies, not_false_eq_true, not_true_eq_false, and_true, mm_sh, hm, mjs_up_at, mjs_up_c, mjs_up_f, eb]
            refine r142 (D := D + 9) e1 b1 b3 (fun H2 J2 x1 x2 e3 => ?_) (fun J2 x2 => absurd x2 (by omega))
            simp +decide only [mjs_0, mjs_1, mjs_2, mjs_3, mjs_ble, true_and, Bool.false_eq_true, if_false, if_true, Nat.reduceAdd, Nat.reduceSub, Nat.reduceLeDiff, false_implies, true_implies, not_false_eq_true, not_true_eq_false, and_true, mm_sh, hm, mjs_up_at, mjs_up_c, mjs_up_f]
            exact mj_nv (hq H2 J2 x1 e3 trivial)
          · simp +decide only [mjs_0, mjs_1, mjs_2, mjs_3, mjs_ble, true_and, Bool.false_eq_true, if_false, if_true, Nat.reduceAdd, Nat.reduceSub, Nat.reduceLeDiff, false_implies, true_implies, not_false_eq_true, not_true_eq_false, and_true]
            refine qF _ I3 c4 ?_
            intro H Lg d nc ns J Q hJ hA hq
            obtain ⟨D, hD, hDk⟩ : ∃ D, d + (kr + 17) = D + 17 ∧ kr ≤ D := ⟨d + kr, by omega, by omega⟩
            rw [hD]
            try rw [hD] at hq
            refine r26 hJ (fun J1 e1 => ?_)
            obtain ⟨b, b1, b2, b3⟩ := refb e1
            rw [b2]
            have eb : nI (100000 + b) - 100000 = nI b := by
              rw [show (100000 : Int32) = nI 100000 from rfl, pk_sub (by omega), Nat.add_sub_cancel_left]
            refine ⟨fun _ => ?_, fun q => absurd (nI_le (a := 100000) (b := 100000 + b) (by omega) (by omega)) q⟩
            refine mj_blk rfl ?_
            simp +decide only [mjs_0, mjs_1, mjs_2, mjs_3, mjs_ble, true_and, Bool.false_eq_true, if_false, if_true, Nat.reduceAdd, Nat.reduceSub, Nat.reduceLeDiff, false_implies, true_implies, not_false_eq_true, not_true_eq_false, and_true, mm_sh, hm, mjs_up_at, mjs_up_c, mjs_up_f, eb]
            refine r142 (D := D + 9) e1 b1 b3 (fun H2 J2 x1 x2 e3 => ?_) (fun J2 x2 e3 => ?_)
            · -- one too many, no more: seen at the end
              have j38 : J2 36 38 = nI (K.2.2 + 1) := (rr_d e3).1.2.2.1
              have j29 : J2 36 29 = nI (pbb M.1 A (M.2.2.1 a) (M.2.1 (a + 1) - M.2.2.1 a) P2).length := (rr_d e3).2.1.1
              have e4 := rr_K (dp := K.2.2) e3
              simp +decide only [mjs_0, mjs_1, mjs_2, mjs_3, mjs_ble, true_and, Bool.false_eq_true, if_false, if_true, Nat.reduceAdd, Nat.reduceSub, Nat.reduceLeDiff, false_implies, true_implies, not_false_eq_true, not_true_eq_false, and_true, mm_sh, hm, mjs_up_at, mjs_up_c, mjs_up_f]
              refine mj_blk rfl ?_
              simp +decide only [mjs_0, mjs_1, mjs_2, mjs_3, mjs_ble, true_and, Bool.false_eq_true, if_false, if_true, Nat.reduceAdd, Nat.reduceSub, Nat.reduceLeDiff, false_implies, true_implies, not_false_eq_true, not_true_eq_false, and_true, mm_sh, hm, mjs_up_at, mjs_up_c, mjs_up_f, j38, nI_pred, j29]
              refine ⟨fun q => absurd q (nI_ge (a := 10000) (b := (pbb M.1 A (M.2.2.1 a) (M.2.1 (a + 1) - M.2.2.1 a) P2).length) (by omega) (by omega)), fun _ => mj_blk rfl ?_⟩
              simp +decide only [mjs_0, mjs_1, mjs_2, mjs_3, mjs_ble, true_and, Bool.false_eq_true, if_false, if_true, Nat.reduceAdd, Nat.reduceSub, Nat.reduceLeDiff, false_implies, true_implies, not_false_eq_true, not_true_eq_false, and_true, mm_sh, hm, mjs_up_at, mjs_up_c, mjs_up_f]
              refine c_106 s59_36 ?_
              rw [if_pos (rr_d e4).1.2.2.2]
              simp +decide only [mjs_0, mjs_1, mjs_2, mjs_3, mjs_ble, true_and, Bool.false_eq_true, if_false, if_true, Nat.reduceAdd, Nat.reduceSub, Nat.reduceLeDiff, false_implies, true_implies, not_false_eq_true, not_true_eq_false, and_true, mm_sh, hm, mjs_up_at, mjs_up_c, mjs_up_f]
              refine mj_blk rfl ?_
              simp +decide only [mjs_0, mjs_1, mjs_2, mjs_3, mjs_ble, true_and, Bool.false_eq_true, if_false, if_true, Nat.reduceAdd, Nat.reduceSub, Nat.reduceLeDiff, false_implies, true_implies, not_false_eq_true, not_true_eq_false, and_true, mm_sh, hm, mjs_up_at, mjs_up_c, mjs_up_f]
              have z4 := rr_f (f := 2) (by decide) (by decide) e4
              exact hq _ (rd_hx z4 x1)
            · simp +decide only [mjs_0, mjs_1, mjs_2, mjs_3, mjs_ble, true_and, Bool.false_eq_true, if_false, if_true, Nat.reduceAdd, Nat.reduceSub, Nat.reduceLeDiff, false_implies, true_implies, not_false_eq_true, not_true_eq_false, and_true, mm_sh, hm, mjs_up_at, mjs_up_c, mjs_up_f]
              exact mj_nv (t69 e3 hq)
        · simp +decide only [mjs_0, mjs_1, mjs_2, mjs_3, mjs_ble, true_and, Bool.false_eq_true, if_false, if_true, Nat.reduceAdd, Nat.reduceSub, Nat.reduceLeDiff, false_implies, true_implies, not_false_eq_true, not_true_eq_false, and_true]
          refine qF g2 I2 a1 ?_
          intro H Lg d nc ns J Q hJ hA hq
          obtain ⟨D, hD, hDk⟩ : ∃ D, d + (kr + 17) = D + 17 ∧ kr ≤ D := ⟨d + kr, by omega, by omega⟩
          rw [hD]
          try rw [hD] at hq
          refine r26 hJ (fun J1 e1 => ?_)
          obtain ⟨b, b1, b2, b3⟩ := refb e1
          rw [b2]
          have eb : nI (100000 + b) - 100000 = nI b := by
            rw [show (100000 : Int32) = nI 100000 from rfl, pk_sub (by omega), Nat.add_sub_cancel_left]
          refine ⟨fun _ => ?_, fun q => absurd (nI_le (a := 100000) (b := 100000 + b) (by omega) (by omega)) q⟩
          refine mj_blk rfl ?_
          simp +decide only [mjs_0, mjs_1, mjs_2, mjs_3, mjs_ble, true_and, Bool.false_eq_true, if_false, if_true, Nat.reduceAdd, Nat.reduceSub, Nat.reduceLeDiff, false_implies, true_implies, not_false_eq_true, not_true_eq_false, and_true, mm_sh, hm, mjs_up_at, mjs_up_c, mjs_up_f, eb]
          refine mj_enter (z := (6, [], mb_142)) (by decide) rfl rfl ?_
          refine a2 b b1 H Lg (D + 9) nc ns J1 _ e1 (mcb e1 b1 b3) (fun J2 e2 => ?_)
          simp +decide only [mjs_0, mjs_1, mjs_2, mjs_3, mjs_ble, true_and, Bool.false_eq_true, if_false, if_true, Nat.reduceAdd, Nat.reduceSub, Nat.reduceLeDiff, false_implies, true_implies, not_false_eq_true, not_true_eq_false, and_true, mm_sh, hm, mjs_up_at, mjs_up_c, mjs_up_f]
          exact mj_nv (t69 e2 hq)
    · -- a primitive
      have hcode : gm S t / 65536 = 1 ∧ gm S t % 65536 ≤ 18 := by
        rcases hgx with hh | hh
        · exact absurd hh e2
        · exact hh
      have n2 : ¬ nI (gm S t / 65536) = 2 := fun q => e2 ((nI_eq (by omega) (by decide)).mp (show nI (gm S t / 65536) = nI 2 from q))
      have hcode1 : 1 ≤ gm S t % 65536 := by
        rcases (gm_v hv ht).1 with z | ⟨z1, z2⟩ | ⟨a', z1, z2⟩ | ⟨z1, z2⟩ | ⟨z1, z2⟩ <;> omega
      generalize hco : gm S t % 65536 = code at *
      have hgm2 : gm S t = 65536 + code := by omega
      -- the reference's code
      have refp : ∀ {H J1 : Nat → Nat → Int32}, RR H ((K.1 + 1, K.2.1, K.2.2 + 1), P, E, N, S, M, C, O, L) J1 → mr_me J1 36 S.2.2.1 (rt t) = nI (1000 + (code - 1)) := by
        intro H J1 e1
        rcases mw_n gM (by omega) (rr_me e1 hv1 ht).1 with ⟨z, y⟩ | ⟨p, p1, p2, z, y⟩ | ⟨a', b, z, b1, y, q⟩ | ⟨c, c1, z, y⟩ | ⟨m, m1, z, y⟩
        · omega
        · have : p = code := by omega
          subst this
          rw [y, rp_id (Or.inl (by omega))]
        · omega
        · omega
        · omega
      refine ⟨fun _ => mj_blk rfl ?_, fun q => absurd n2 q⟩
      simp +decide only [mjs_0, mjs_1, mjs_2, mjs_3, mjs_ble, true_and, Bool.false_eq_true, if_false, if_true, Nat.reduceAdd, Nat.reduceSub, Nat.reduceLeDiff, false_implies, true_implies, not_false_eq_true, not_true_eq_false, and_true, mc_sh, hr, mjs_up_at, mjs_up_c, mjs_up_f]
      refine c_94 ?_
      rw [hco]
      simp +decide only [mjs_0, mjs_1, mjs_2, mjs_3, mjs_ble, true_and, Bool.false_eq_true, if_false, if_true, Nat.reduceAdd, Nat.reduceSub, Nat.reduceLeDiff, false_implies, true_implies, not_false_eq_true, not_true_eq_false, and_true, mc_sh, hr, mjs_up_at, mjs_up_c, mjs_up_f]
      have em1 : nI (1000 + (code - 1)) - 1000 = nI (code - 1) := by
        rw [show (1000 : Int32) = nI 1000 from rfl, pk_sub (by omega), Nat.add_sub_cancel_left]
      have qq1 : ∀ fb' K' P' N' S' C' L' I', gv (K', P', E, N', S', M, C', O, L') → RC fb' vb (K', P', E, N', S', M, C', O, L') I' → P'.length ≤ 10060 → xr K.1 (K.1 + 1, K.2.1, K.2.2 + 1) N S C L K' N' S' C' L' → RX X Rf (kr + 14) 134 [.ref 36, .int (nI (rt t)), .int (nI (code - 1))] ((K.1 + 1, K.2.1, K.2.2 + 1), P, E, N, S, M, C, O, L) na none (K', P', E, N', S', M, C', O, L') na → mj_rn X (mj_hd []) (mj_call X mj_P (mj_bi X) (d + 11)) mb_25 65 [some (.ref 28), none, none] [] (sh59, I', Lg, Rf, nc, ns) Q := by
        intro fb' K' P' N' S' C' L' I' a1 a2 a3 a4 a5
        refine fin fb' K' P' N' S' C' L' I' a1 a2 a3 a4 ?_
        intro H Lg d nc ns J Q hJ hA hq
        obtain ⟨D, hD, hDk⟩ : ∃ D, d + (kr + 17) = D + 17 ∧ kr ≤ D := ⟨d + kr, by omega, by omega⟩
        rw [hD]
        try rw [hD] at hq
        refine r26 hJ (fun J1 e1 => ?_)
        rw [refp e1]
        refine ⟨fun q => absurd q (nI_ge (a := 1000 + (code - 1)) (b := 100000) (by omega) (by decide)), fun _ => ?_⟩
        refine mj_blk rfl ?_
        simp +decide only [mjs_0, mjs_1, mjs_2, mjs_3, mjs_ble, true_and, Bool.false_eq_true, if_false, if_true, Nat.reduceAdd, Nat.reduceSub, Nat.reduceLeDiff, false_implies, true_implies, not_false_eq_true, not_true_eq_false, and_true, mm_sh, hm, mjs_up_at, mjs_up_c, mjs_up_f, em1]
        refine rx_at a5 (by omega) e1 trivial (fun H2 J2 c3 c4 _ => ?_)
        simp +decide only [mjs_0, mjs_1, mjs_2, mjs_3, mjs_ble, true_and, Bool.false_eq_true, if_false, if_true, Nat.reduceAdd, Nat.reduceSub, Nat.reduceLeDiff, false_implies, true_implies, not_false_eq_true, not_true_eq_false, and_true, mm_sh, hm, mjs_up_at, mjs_up_c, mjs_up_f]
        exact mj_nv (hq H2 J2 c3 c4 trivial)
      have qq3 : ∀ g' I', RCf fb vb g' I' → RY X Rf (kr + 14) 134 [.ref 36, .int (nI (rt t)), .int (nI (code - 1))] ((K.1 + 1, K.2.1, K.2.2 + 1), P, E, N, S, M, C, O, L) na none g' → Q (.inr 500) (sh59, I', Lg, Rf, nc + 1, ns + 6) := by
        intro g' I' a1 a2
        refine qF g' I' a1 ?_
        intro H Lg d nc ns J Q hJ hA hq
        obtain ⟨D, hD, hDk⟩ : ∃ D, d + (kr + 17) = D + 17 ∧ kr ≤ D := ⟨d + kr, by omega, by omega⟩
        rw [hD]
        try rw [hD] at hq
        refine r26 hJ (fun J1 e1 => ?_)
        rw [refp e1]
        refine ⟨fun q => absurd q (nI_ge (a := 1000 + (code - 1)) (b := 100000) (by omega) (by decide)), fun _ => ?_⟩
        refine mj_blk rfl ?_
        simp +decide only [mjs_0, mjs_1, mjs_2, mjs_3, mjs_ble, true_and, Bool.false_eq_true, if_false, if_true, Nat.reduceAdd, Nat.reduceSub, Nat.reduceLeDiff, false_implies, true_implies, not_false_eq_true, not_true_eq_false, and_true, mm_sh, hm, mjs_up_at, mjs_up_c, mjs_up_f, em1]
        refine ry_at a2 (by omega) e1 trivial (fun J2 c3 => ?_)
        simp +decide only [mjs_0, mjs_1, mjs_2, mjs_3, mjs_ble, true_and, Bool.false_eq_true, if_false, if_true, Nat.reduceAdd, Nat.reduceSub, Nat.reduceLeDiff, false_implies, true_implies, not_false_eq_true, not_true_eq_false, and_true, mm_sh, hm, mjs_up_at, mjs_up_c, mjs_up_f]
        exact mj_nv (t69 c3 hq)
      have hE1 : em_v (K.2.2 + 1 - 1) E := hEv
      have cases18 : code = 1 ∨ code = 2 ∨ code = 3 ∨ code = 4 ∨ code = 5 ∨ code = 6 ∨ code = 7 ∨ code = 8 ∨ code = 9 ∨ code = 10 ∨ code = 11 ∨ code = 12 ∨ code = 13 ∨ code = 14 ∨ code = 15 ∨ code = 16 ∨ code = 17 ∨ code = 18 := by omega
      have hn1 : K.2.2 + 1 + n = 40 := by omega
      rcases cases18 with rfl | rfl | rfl | rfl | rfl | rfl | rfl | rfl | rfl | rfl | rfl | rfl | rfl | rfl | rfl | rfl | rfl | rfl
      · refine x_after (k0 := K.1) hR hM' hP hX hN hT (by omega) hn1 hr' hv1 hw1 rfl hw.1 (Nat.le_add_left 1 _) hE1 (by omega) c2 (fun fb' K' P' N' S' C' L' I' a1 a2 a3 a4 a5 => ?_) (fun g' I' a1 a2 => ?_)
        · simp +decide only [mjs_0, mjs_1, mjs_2, mjs_3, mjs_ble, true_and, Bool.false_eq_true, if_false, if_true, Nat.reduceAdd, Nat.reduceSub, Nat.reduceLeDiff, false_implies, true_implies, not_false_eq_true, not_true_eq_false, and_true]
          exact mj_nv (qq1 fb' K' P' N' S' C' L' I' a1 a2 a3 a4 a5)
        · simp +decide only [mjs_0, mjs_1, mjs_2, mjs_3, mjs_ble, true_and, Bool.false_eq_true, if_false, if_true, Nat.reduceAdd, Nat.reduceSub, Nat.reduceLeDiff, false_implies, true_implies, not_false_eq_true, not_true_eq_false, and_true]
          exact qq3 g' I' a1 a2
      · refine x_noexpand (k0 := K.1) hR hM' hP hX hN hT (by omega) hn1 hr' hv1 hw1 rfl hw.1 (Nat.le_add_left 1 _) hE1 (by omega) c2 (fun fb' K' P' N' S' C' L' I' a1 a2 a3 a4 a5 => ?_) (fun g' I' a1 a2 => ?_)
        · simp +decide only [mjs_0, mjs_1, mjs_2, mjs_3, mjs_ble, true_and, Bool.false_eq_true, if_false, if_true, Nat.reduceAdd, Nat.reduceSub, Nat.reduceLeDiff, false_implies, true_implies, not_false_eq_true, not_true_eq_false, and_true]
          exact mj_nv (qq1 fb' K' P' N' S' C' L' I' a1 a2 a3 a4 a5)
        · simp +decide only [mjs_0, mjs_1, mjs_2, mjs_3, mjs_ble, true_and, Bool.false_eq_true, if_false, if_true, Nat.reduceAdd, Nat.reduceSub, Nat.reduceLeDiff, false_implies, true_implies, not_false_eq_true, not_true_eq_false, and_true]
          exact qq3 g' I' a1 a2
      · refine x_csname (k0 := K.1) hR hM' hP hX hN hT (by omega) hn1 hr' hv1 hw1 rfl hw.1 (Nat.le_add_left 1 _) hE1 (by omega) c2 (fun fb' K' P' N' S' C' L' I' a1 a2 a3 a4 a5 => ?_) (fun g' I' a1 a2 => ?_)
        · simp +decide only [mjs_0, mjs_1, mjs_2, mjs_3, mjs_ble, true_and, Bool.false_eq_true, if_false, if_true, Nat.reduceAdd, Nat.reduceSub, Nat.reduceLeDiff, false_implies, true_implies, not_false_eq_true, not_true_eq_false, and_true]
          exact mj_nv (qq1 fb' K' P' N' S' C' L' I' a1 a2 a3 a4 a5)
        · simp +decide only [mjs_0, mjs_1, mjs_2, mjs_3, mjs_ble, true_and, Bool.false_eq_true, if_false, if_true, Nat.reduceAdd, Nat.reduceSub, Nat.reduceLeDiff, false_implies, true_implies, not_false_eq_true, not_true_eq_false, and_true]
          exact qq3 g' I' a1 a2
      · refine x_string (k0 := K.1) hR hM' hP hX hN hT (by omega) hn1 hr' hv1 hw1 rfl hw.1 (Nat.le_add_left 1 _) hE1 (by omega) c2 (fun fb' K' P' N' S' C' L' I' a1 a2 a3 a4 a5 => ?_) (fun g' I' a1 a2 => ?_)
        · simp +decide only [mjs_0, mjs_1, mjs_2, mjs_3, mjs_ble, true_and, Bool.false_eq_true, if_false, if_true, Nat.reduceAdd, Nat.reduceSub, Nat.reduceLeDiff, false_implies, true_implies, not_false_eq_true, not_true_eq_false, and_true]
          exact mj_nv (qq1 fb' K' P' N' S' C' L' I' a1 a2 a3 a4 a5)
        · simp +decide only [mjs_0, mjs_1, mjs_2, mjs_3, mjs_ble, true_and, Bool.false_eq_true, if_false, if_true, Nat.reduceAdd, Nat.reduceSub, Nat.reduceLeDiff, false_implies, true_implies, not_false_eq_true, not_true_eq_false, and_true]
          exact qq3 g' I' a1 a2
      · refine x_number (k0 := K.1) hR hM' hP hX hN hT (by omega) hn1 hr' hv1 hw1 rfl hw.1 (Nat.le_add_left 1 _) hE1 (by omega) c2 (fun fb' K' P' N' S' C' L' I' a1 a2 a3 a4 a5 => ?_) (fun g' I' a1 a2 => ?_)
        · simp +decide only [mjs_0, mjs_1, mjs_2, mjs_3, mjs_ble, true_and, Bool.false_eq_true, if_false, if_true, Nat.reduceAdd, Nat.reduceSub, Nat.reduceLeDiff, false_implies, true_implies, not_false_eq_true, not_true_eq_false, and_true]
          exact mj_nv (qq1 fb' K' P' N' S' C' L' I' a1 a2 a3 a4 a5)
        · simp +decide only [mjs_0, mjs_1, mjs_2, mjs_3, mjs_ble, true_and, Bool.false_eq_true, if_false, if_true, Nat.reduceAdd, Nat.reduceSub, Nat.reduceLeDiff, false_implies, true_implies, not_false_eq_true, not_true_eq_false, and_true]
          exact qq3 g' I' a1 a2
      · refine x_roman (k0 := K.1) hR hM' hP hX hN hT (by omega) hn1 hr' hv1 hw1 rfl hw.1 (Nat.le_add_left 1 _) hE1 (by omega) c2 (fun fb' K' P' N' S' C' L' I' a1 a2 a3 a4 a5 => ?_) (fun g' I' a1 a2 => ?_)
        · simp +decide only [mjs_0, mjs_1, mjs_2, mjs_3, mjs_ble, true_and, Bool.false_eq_true, if_false, if_true, Nat.reduceAdd, Nat.reduceSub, Nat.reduceLeDiff, false_implies, true_implies, not_false_eq_true, not_true_eq_false, and_true]
          exact mj_nv (qq1 fb' K' P' N' S' C' L' I' a1 a2 a3 a4 a5)
        · simp +decide only [mjs_0, mjs_1, mjs_2, mjs_3, mjs_ble, true_and, Bool.false_eq_true, if_false, if_true, Nat.reduceAdd, Nat.reduceSub, Nat.reduceLeDiff, false_implies, true_implies, not_false_eq_true, not_true_eq_false, and_true]
          exact qq3 g' I' a1 a2
      · refine x_the (k0 := K.1) hR hM' hP hX hN hT (by omega) hn1 hr' hv1 hw1 rfl hw.1 (Nat.le_add_left 1 _) hE1 (by omega) c2 (fun fb' K' P' N' S' C' L' I' a1 a2 a3 a4 a5 => ?_) (fun g' I' a1 a2 => ?_)
        · simp +decide only [mjs_0, mjs_1, mjs_2, mjs_3, mjs_ble, true_and, Bool.false_eq_true, if_false, if_true, Nat.reduceAdd, Nat.reduceSub, Nat.reduceLeDiff, false_implies, true_implies, not_false_eq_true, not_true_eq_false, and_true]
          exact mj_nv (qq1 fb' K' P' N' S' C' L' I' a1 a2 a3 a4 a5)
        · simp +decide only [mjs_0, mjs_1, mjs_2, mjs_3, mjs_ble, true_and, Bool.false_eq_true, if_false, if_true, Nat.reduceAdd, Nat.reduceSub, Nat.reduceLeDiff, false_implies, true_implies, not_false_eq_true, not_true_eq_false, and_true]
          exact qq3 g' I' a1 a2
      · refine x_cond8 (k0 := K.1) hR hM' hP hX hN hT (by omega) hn1 hr' hv1 hw1 rfl hw.1 (Nat.le_add_left 1 _) hE1 (by omega) c2 (fun fb' K' P' N' S' C' L' I' a1 a2 a3 a4 a5 => ?_) (fun g' I' a1 a2 => ?_)
        · simp +decide only [mjs_0, mjs_1, mjs_2, mjs_3, mjs_ble, true_and, Bool.false_eq_true, if_false, if_true, Nat.reduceAdd, Nat.reduceSub, Nat.reduceLeDiff, false_implies, true_implies, not_false_eq_true, not_true_eq_false, and_true]
          exact mj_nv (qq1 fb' K' P' N' S' C' L' I' a1 a2 a3 a4 a5)
        · simp +decide only [mjs_0, mjs_1, mjs_2, mjs_3, mjs_ble, true_and, Bool.false_eq_true, if_false, if_true, Nat.reduceAdd, Nat.reduceSub, Nat.reduceLeDiff, false_implies, true_implies, not_false_eq_true, not_true_eq_false, and_true]
          exact qq3 g' I' a1 a2
      · refine x_cond9 (k0 := K.1) hR hM' hP hX hN hT (by omega) hn1 hr' hv1 hw1 rfl hw.1 (Nat.le_add_left 1 _) hE1 (by omega) c2 (fun fb' K' P' N' S' C' L' I' a1 a2 a3 a4 a5 => ?_) (fun g' I' a1 a2 => ?_)
        · simp +decide only [mjs_0, mjs_1, mjs_2, mjs_3, mjs_ble, true_and, Bool.false_eq_true, if_false, if_true, Nat.reduceAdd, Nat.reduceSub, Nat.reduceLeDiff, false_implies, true_implies, not_false_eq_true, not_true_eq_false, and_true]
          exact mj_nv (qq1 fb' K' P' N' S' C' L' I' a1 a2 a3 a4 a5)
        · simp +decide only [mjs_0, mjs_1, mjs_2, mjs_3, mjs_ble, true_and, Bool.false_eq_true, if_false, if_true, Nat.reduceAdd, Nat.reduceSub, Nat.reduceLeDiff, false_implies, true_implies, not_false_eq_true, not_true_eq_false, and_true]
          exact qq3 g' I' a1 a2
      · refine x_cond10 (k0 := K.1) hR hM' hP hX hN hT (by omega) hn1 hr' hv1 hw1 rfl hw.1 (Nat.le_add_left 1 _) hE1 (by omega) c2 (fun fb' K' P' N' S' C' L' I' a1 a2 a3 a4 a5 => ?_) (fun g' I' a1 a2 => ?_)
        · simp +decide only [mjs_0, mjs_1, mjs_2, mjs_3, mjs_ble, true_and, Bool.false_eq_true, if_false, if_true, Nat.reduceAdd, Nat.reduceSub, Nat.reduceLeDiff, false_implies, true_implies, not_false_eq_true, not_true_eq_false, and_true]
          exact mj_nv (qq1 fb' K' P' N' S' C' L' I' a1 a2 a3 a4 a5)
        · simp +decide only [mjs_0, mjs_1, mjs_2, mjs_3, mjs_ble, true_and, Bool.false_eq_true, if_false, if_true, Nat.reduceAdd, Nat.reduceSub, Nat.reduceLeDiff, false_implies, true_implies, not_false_eq_true, not_true_eq_false, and_true]
          exact qq3 g' I' a1 a2
      · refine x_cond11 (k0 := K.1) hR hM' hP hX hN hT (by omega) hn1 hr' hv1 hw1 rfl hw.1 (Nat.le_add_left 1 _) hE1 (by omega) c2 (fun fb' K' P' N' S' C' L' I' a1 a2 a3 a4 a5 => ?_) (fun g' I' a1 a2 => ?_)
        · simp +decide only [mjs_0, mjs_1, mjs_2, mjs_3, mjs_ble, true_and, Bool.false_eq_true, if_false, if_true, Nat.reduceAdd, Nat.reduceSub, Nat.reduceLeDiff, false_implies, true_implies, not_false_eq_true, not_true_eq_false, and_true]
          exact mj_nv (qq1 fb' K' P' N' S' C' L' I' a1 a2 a3 a4 a5)
        · simp +decide only [mjs_0, mjs_1, mjs_2, mjs_3, mjs_ble, true_and, Bool.false_eq_true, if_false, if_true, Nat.reduceAdd, Nat.reduceSub, Nat.reduceLeDiff, false_implies, true_implies, not_false_eq_true, not_true_eq_false, and_true]
          exact qq3 g' I' a1 a2
      · refine x_cond12 (k0 := K.1) hR hM' hP hX hN hT (by omega) hn1 hr' hv1 hw1 rfl hw.1 (Nat.le_add_left 1 _) hE1 (by omega) c2 (fun fb' K' P' N' S' C' L' I' a1 a2 a3 a4 a5 => ?_) (fun g' I' a1 a2 => ?_)
        · simp +decide only [mjs_0, mjs_1, mjs_2, mjs_3, mjs_ble, true_and, Bool.false_eq_true, if_false, if_true, Nat.reduceAdd, Nat.reduceSub, Nat.reduceLeDiff, false_implies, true_implies, not_false_eq_true, not_true_eq_false, and_true]
          exact mj_nv (qq1 fb' K' P' N' S' C' L' I' a1 a2 a3 a4 a5)
        · simp +decide only [mjs_0, mjs_1, mjs_2, mjs_3, mjs_ble, true_and, Bool.false_eq_true, if_false, if_true, Nat.reduceAdd, Nat.reduceSub, Nat.reduceLeDiff, false_implies, true_implies, not_false_eq_true, not_true_eq_false, and_true]
          exact qq3 g' I' a1 a2
      · refine x_cond13 (k0 := K.1) hR hM' hP hX hN hT (by omega) hn1 hr' hv1 hw1 rfl hw.1 (Nat.le_add_left 1 _) hE1 (by omega) c2 (fun fb' K' P' N' S' C' L' I' a1 a2 a3 a4 a5 => ?_) (fun g' I' a1 a2 => ?_)
        · simp +decide only [mjs_0, mjs_1, mjs_2, mjs_3, mjs_ble, true_and, Bool.false_eq_true, if_false, if_true, Nat.reduceAdd, Nat.reduceSub, Nat.reduceLeDiff, false_implies, true_implies, not_false_eq_true, not_true_eq_false, and_true]
          exact mj_nv (qq1 fb' K' P' N' S' C' L' I' a1 a2 a3 a4 a5)
        · simp +decide only [mjs_0, mjs_1, mjs_2, mjs_3, mjs_ble, true_and, Bool.false_eq_true, if_false, if_true, Nat.reduceAdd, Nat.reduceSub, Nat.reduceLeDiff, false_implies, true_implies, not_false_eq_true, not_true_eq_false, and_true]
          exact qq3 g' I' a1 a2
      · refine x_cond14 (k0 := K.1) hR hM' hP hX hN hT (by omega) hn1 hr' hv1 hw1 rfl hw.1 (Nat.le_add_left 1 _) hE1 (by omega) c2 (fun fb' K' P' N' S' C' L' I' a1 a2 a3 a4 a5 => ?_) (fun g' I' a1 a2 => ?_)
        · simp +decide only [mjs_0, mjs_1, mjs_2, mjs_3, mjs_ble, true_and, Bool.false_eq_true, if_false, if_true, Nat.reduceAdd, Nat.reduceSub, Nat.reduceLeDiff, false_implies, true_implies, not_false_eq_true, not_true_eq_false, and_true]
          exact mj_nv (qq1 fb' K' P' N' S' C' L' I' a1 a2 a3 a4 a5)
        · simp +decide only [mjs_0, mjs_1, mjs_2, mjs_3, mjs_ble, true_and, Bool.false_eq_true, if_false, if_true, Nat.reduceAdd, Nat.reduceSub, Nat.reduceLeDiff, false_implies, true_implies, not_false_eq_true, not_true_eq_false, and_true]
          exact qq3 g' I' a1 a2
      · refine x_cond15 (k0 := K.1) hR hM' hP hX hN hT (by omega) hn1 hr' hv1 hw1 rfl hw.1 (Nat.le_add_left 1 _) hE1 (by omega) c2 (fun fb' K' P' N' S' C' L' I' a1 a2 a3 a4 a5 => ?_) (fun g' I' a1 a2 => ?_)
        · simp +decide only [mjs_0, mjs_1, mjs_2, mjs_3, mjs_ble, true_and, Bool.false_eq_true, if_false, if_true, Nat.reduceAdd, Nat.reduceSub, Nat.reduceLeDiff, false_implies, true_implies, not_false_eq_true, not_true_eq_false, and_true]
          exact mj_nv (qq1 fb' K' P' N' S' C' L' I' a1 a2 a3 a4 a5)
        · simp +decide only [mjs_0, mjs_1, mjs_2, mjs_3, mjs_ble, true_and, Bool.false_eq_true, if_false, if_true, Nat.reduceAdd, Nat.reduceSub, Nat.reduceLeDiff, false_implies, true_implies, not_false_eq_true, not_true_eq_false, and_true]
          exact qq3 g' I' a1 a2
      · refine x_else (k0 := K.1) hR hM' hP hX hN hT (by omega) hn1 hr' hv1 hw1 rfl hw.1 (Nat.le_add_left 1 _) hE1 (by omega) ht (by omega) c2 (fun fb' K' P' N' S' C' L' I' a1 a2 a3 a4 a5 => ?_) (fun g' I' a1 a2 => ?_)
        · simp +decide only [mjs_0, mjs_1, mjs_2, mjs_3, mjs_ble, true_and, Bool.false_eq_true, if_false, if_true, Nat.reduceAdd, Nat.reduceSub, Nat.reduceLeDiff, false_implies, true_implies, not_false_eq_true, not_true_eq_false, and_true]
          exact mj_nv (qq1 fb' K' P' N' S' C' L' I' a1 a2 a3 a4 a5)
        · simp +decide only [mjs_0, mjs_1, mjs_2, mjs_3, mjs_ble, true_and, Bool.false_eq_true, if_false, if_true, Nat.reduceAdd, Nat.reduceSub, Nat.reduceLeDiff, false_implies, true_implies, not_false_eq_true, not_true_eq_false, and_true]
          exact qq3 g' I' a1 a2
      · refine x_or (k0 := K.1) hR hM' hP hX hN hT (by omega) hn1 hr' hv1 hw1 rfl hw.1 (Nat.le_add_left 1 _) hE1 (by omega) ht (by omega) c2 (fun fb' K' P' N' S' C' L' I' a1 a2 a3 a4 a5 => ?_) (fun g' I' a1 a2 => ?_)
        · simp +decide only [mjs_0, mjs_1, mjs_2, mjs_3, mjs_ble, true_and, Bool.false_eq_true, if_false, if_true, Nat.reduceAdd, Nat.reduceSub, Nat.reduceLeDiff, false_implies, true_implies, not_false_eq_true, not_true_eq_false, and_true]
          exact mj_nv (qq1 fb' K' P' N' S' C' L' I' a1 a2 a3 a4 a5)
        · simp +decide only [mjs_0, mjs_1, mjs_2, mjs_3, mjs_ble, true_and, Bool.false_eq_true, if_false, if_true, Nat.reduceAdd, Nat.reduceSub, Nat.reduceLeDiff, false_implies, true_implies, not_false_eq_true, not_true_eq_false, and_true]
          exact qq3 g' I' a1 a2
      · refine x_fi (k0 := K.1) hR hM' hP hX hN hT (by omega) hn1 hr' hv1 hw1 rfl hw.1 (Nat.le_add_left 1 _) hE1 (by omega) ht (by omega) c2 (fun fb' K' P' N' S' C' L' I' a1 a2 a3 a4 a5 => ?_) (fun g' I' a1 a2 => ?_)
        · simp +decide only [mjs_0, mjs_1, mjs_2, mjs_3, mjs_ble, true_and, Bool.false_eq_true, if_false, if_true, Nat.reduceAdd, Nat.reduceSub, Nat.reduceLeDiff, false_implies, true_implies, not_false_eq_true, not_true_eq_false, and_true]
          exact mj_nv (qq1 fb' K' P' N' S' C' L' I' a1 a2 a3 a4 a5)
        · simp +decide only [mjs_0, mjs_1, mjs_2, mjs_3, mjs_ble, true_and, Bool.false_eq_true, if_false, if_true, Nat.reduceAdd, Nat.reduceSub, Nat.reduceLeDiff, false_implies, true_implies, not_false_eq_true, not_true_eq_false, and_true]
          exact qq3 g' I' a1 a2
  · simp +decide only [mjs_0, mjs_1, mjs_2, mjs_3, mjs_ble, true_and, Bool.false_eq_true, if_false, if_true, Nat.reduceAdd, Nat.reduceSub, Nat.reduceLeDiff, false_implies, true_implies, not_false_eq_true, not_true_eq_false, and_true]
    refine qF _ _ c1 ?_
    intro H Lg d nc ns J Q hJ hA hq
    obtain ⟨D, hD, hDk⟩ : ∃ D, d + (kr + 17) = D + 17 ∧ kr ≤ D := ⟨d + kr, by omega, by omega⟩
    rw [hD]
    try rw [hD] at hq
    refine mj_blk rfl ?_
    simp +decide only [mjs_0, mjs_1, mjs_2, mjs_3, mjs_ble, true_and, Bool.false_eq_true, if_false, if_true, Nat.reduceAdd, Nat.reduceSub, Nat.reduceLeDiff, false_implies, true_implies, not_false_eq_true, not_true_eq_false, and_true, mm_sh, hm, mjs_up_at, mjs_up_c, mjs_up_f]
    refine rq_132 hM' hJ ⟨k5.1, k5.2.1⟩ (fun hlt => absurd hlt (by omega)) (fun _ J1 e1 => ?_)
    simp +decide only [mjs_0, mjs_1, mjs_2, mjs_3, mjs_ble, true_and, Bool.false_eq_true, if_false, if_true, Nat.reduceAdd, Nat.reduceSub, Nat.reduceLeDiff, false_implies, true_implies, not_false_eq_true, not_true_eq_false, and_true, mm_sh, hm, mjs_up_at, mjs_up_c, mjs_up_f]
    refine ⟨fun _ => mj_nv (tk e1 hq), fun _ => mj_blk rfl ?_⟩
    simp +decide only [mjs_0, mjs_1, mjs_2, mjs_3, mjs_ble, true_and, Bool.false_eq_true, if_false, if_true, Nat.reduceAdd, Nat.reduceSub, Nat.reduceLeDiff, false_implies, true_implies, not_false_eq_true, not_true_eq_false, and_true, mm_sh, hm, mjs_up_at, mjs_up_c, mjs_up_f]
    refine f_106 s59_36 (rd_ne e1) ?_
    simp +decide only [mjs_0, mjs_1, mjs_2, mjs_3, mjs_ble, true_and, Bool.false_eq_true, if_false, if_true, Nat.reduceAdd, Nat.reduceSub, Nat.reduceLeDiff, false_implies, true_implies, not_false_eq_true, not_true_eq_false, and_true, mm_sh, hm, mjs_up_at, mjs_up_c, mjs_up_f]
    exact mj_nv (tk e1 hq)
end MJEX
