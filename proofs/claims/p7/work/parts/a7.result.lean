/-! THE RESULT OF ADVANCE, MULTIPLY, DIVIDE, in both -/
section MJRS
variable {X : mj_X} {d nc ns : Nat} {Q : mj_Q} {I I' J J' H : Nat → Nat → Int32} {Lg : Nat → Nat → Int64} {Rf : Nat → Nat → Option Nat} {fb fb' : Nat → Nat → Int32} {vb : Nat → Int32} {K K' K2 : Nat × Nat × Nat} {P P' P2 : List Nat} {E : sgE} {N N' N2 : sgN} {S S' S2 : sgS} {M : sgM} {C C' C2 : sgC} {O : sgO} {L L' L2 : sgL} {t n kc kr gl s' code k : Nat}
theorem cq_74 (hR : mj_Rt mp_R Rf) (hc : code = 33 ∨ code = 34 ∨ code = 35) {a b : Int64} (hr' : nc + 1 ≤ X.2.2.1 ∧ ns + 6 ≤ X.2.2.2) (hv : gv (K, P, E, N, S, M, C, O, L)) (h : RC fb vb (K, P, E, N, S, M, C, O, L) I)
    (hQ1 : rok code a b → Q (.inl (some (.int (rv code a b).toInt32))) (sh59, I, Lg, Rf, nc, ns))
    (hQ3 : ¬ rok code a b → ∀ I', RCf fb vb (K, P, E, N, S, M, C, O, L) I' → Q (.inr 500) (sh59, I', Lg, Rf, nc + 1, ns + 6)) :
    mj_call X mj_P (mj_bi X) (d + 2) 74 [.ref 34, .int (nI code), .long a, .long b] (sh59, I, Lg, Rf, nc, ns) Q := by
  have hr := mc_rf hR
  have bad : ∀ w : Option Value, ¬ rok code a b → mj_rn X (mj_hd []) (mj_call X mj_P (mj_bi X) (d + 1)) mb_74 73 [some (.ref 34), none, none, none, none, none, w, none] [] (sh59, I, Lg, Rf, nc, ns) Q := by
    intro w q
    refine mj_blk rfl ?_
    simp +decide only [mjs_0, mjs_1, mjs_2, mjs_3, mjs_ble, true_and, Bool.false_eq_true, if_false, if_true, Nat.reduceAdd, Nat.reduceSub, Nat.reduceLeDiff, false_implies, true_implies, not_false_eq_true, not_true_eq_false, and_true, mc_sh, hr, mjs_up_at, mjs_up_c, mjs_up_f]
    refine c_80 s59_1 hr' ?_
    simp +decide only [mjs_0, mjs_1, mjs_2, mjs_3, mjs_ble, true_and, Bool.false_eq_true, if_false, if_true, Nat.reduceAdd, Nat.reduceSub, Nat.reduceLeDiff, false_implies, true_implies, not_false_eq_true, not_true_eq_false, and_true]
    exact hQ3 q _ (rc_f hv h)
  have K53 : ¬ (code = 35 ∧ b = 0) → ∀ w1 w2 w4 : Option Value, mj_rn X (mj_hd []) (mj_call X mj_P (mj_bi X) (d + 1)) mb_74 53 [some (.ref 34), none, none, none, none, none, none, none] [.long (rv code a b)] (sh59, I, Lg, Rf, nc, ns) Q := by
    intro hz w1 w2 w4
    refine mj_blk rfl ?_
    simp +decide only [mjs_0, mjs_1, mjs_2, mjs_3, mjs_ble, true_and, Bool.false_eq_true, if_false, if_true, Nat.reduceAdd, Nat.reduceSub, Nat.reduceLeDiff, false_implies, true_implies, not_false_eq_true, not_true_eq_false, and_true]
    refine ⟨fun q => ?_, fun q => mj_blk rfl ?_⟩
    · have q' := (lg_cmp_gt _ _).mp q
      exact mj_nv (bad none (fun hh => absurd hh.2.1 (Int64.not_le.mpr q')))
    · have q1 : rv code a b ≤ 2147483647 := Int64.not_lt.mp (fun hh => q ((lg_cmp_gt _ _).mpr hh))
      simp +decide only [mjs_0, mjs_1, mjs_2, mjs_3, mjs_ble, true_and, Bool.false_eq_true, if_false, if_true, Nat.reduceAdd, Nat.reduceSub, Nat.reduceLeDiff, false_implies, true_implies, not_false_eq_true, not_true_eq_false, and_true]
      refine ⟨fun q => mj_blk rfl ?_, fun q => ?_⟩
      · have q2 := (lg_cmp_ge _ _).mp q
        simp +decide only [mjs_0, mjs_1, mjs_2, mjs_3, mjs_ble, true_and, Bool.false_eq_true, if_false, if_true, Nat.reduceAdd, Nat.reduceSub, Nat.reduceLeDiff, false_implies, true_implies, not_false_eq_true, not_true_eq_false, and_true]
        refine mj_blk rfl ?_
        simp +decide only [mjs_0, mjs_1, mjs_2, mjs_3, mjs_ble, true_and, Bool.false_eq_true, if_false, if_true, Nat.reduceAdd, Nat.reduceSub, Nat.reduceLeDiff, false_implies, true_implies, not_false_eq_true, not_true_eq_false, and_true]
        exact hQ1 ⟨hz, q1, q2⟩
      · exact mj_nv (bad none (fun hh => q ((lg_cmp_ge _ _).mpr hh.2.2)))
  refine mj_enter (z := (8, [], mb_74)) (by decide) rfl rfl ?_
  refine mj_blk rfl ?_
  simp +decide only [mjs_0, mjs_1, mjs_2, mjs_3, mjs_ble, true_and, Bool.false_eq_true, if_false, if_true, Nat.reduceAdd, Nat.reduceSub, Nat.reduceLeDiff, false_implies, true_implies, not_false_eq_true, not_true_eq_false, and_true]
  rcases hc with rfl | rfl | rfl
  · have z : ¬ ((33 : Nat) = 35 ∧ b = 0) := fun q => absurd q.1 (by decide)
    have e : rv 33 a b = a + b := rfl
    refine ⟨fun _ => mj_blk rfl ?_, fun q => absurd (by decide) q⟩
    simp +decide only [mjs_0, mjs_1, mjs_2, mjs_3, mjs_ble, true_and, Bool.false_eq_true, if_false, if_true, Nat.reduceAdd, Nat.reduceSub, Nat.reduceLeDiff, false_implies, true_implies, not_false_eq_true, not_true_eq_false, and_true]
    refine mj_blk rfl ?_
    simp +decide only [mjs_0, mjs_1, mjs_2, mjs_3, mjs_ble, true_and, Bool.false_eq_true, if_false, if_true, Nat.reduceAdd, Nat.reduceSub, Nat.reduceLeDiff, false_implies, true_implies, not_false_eq_true, not_true_eq_false, and_true]
    rw [← e]
    exact mj_nv (K53 z none none none)
  · have z : ¬ ((34 : Nat) = 35 ∧ b = 0) := fun q => absurd q.1 (by decide)
    have e : rv 34 a b = a * b := rfl
    refine ⟨fun _ => mj_blk rfl ?_, fun q => absurd (by decide) q⟩
    simp +decide only [mjs_0, mjs_1, mjs_2, mjs_3, mjs_ble, true_and, Bool.false_eq_true, if_false, if_true, Nat.reduceAdd, Nat.reduceSub, Nat.reduceLeDiff, false_implies, true_implies, not_false_eq_true, not_true_eq_false, and_true]
    refine mj_blk rfl ?_
    simp +decide only [mjs_0, mjs_1, mjs_2, mjs_3, mjs_ble, true_and, Bool.false_eq_true, if_false, if_true, Nat.reduceAdd, Nat.reduceSub, Nat.reduceLeDiff, false_implies, true_implies, not_false_eq_true, not_true_eq_false, and_true]
    refine mj_blk rfl ?_
    simp +decide only [mjs_0, mjs_1, mjs_2, mjs_3, mjs_ble, true_and, Bool.false_eq_true, if_false, if_true, Nat.reduceAdd, Nat.reduceSub, Nat.reduceLeDiff, false_implies, true_implies, not_false_eq_true, not_true_eq_false, and_true]
    rw [← e]
    exact mj_nv (K53 z none none none)
  · have e : rv 35 a b = a / b := rfl
    refine ⟨fun q => absurd rfl q, fun _ => mj_blk rfl ?_⟩
    simp +decide only [mjs_0, mjs_1, mjs_2, mjs_3, mjs_ble, true_and, Bool.false_eq_true, if_false, if_true, Nat.reduceAdd, Nat.reduceSub, Nat.reduceLeDiff, false_implies, true_implies, not_false_eq_true, not_true_eq_false, and_true]
    refine ⟨fun q => mj_blk rfl ?_, fun q => mj_blk rfl ?_⟩
    · have hb : ¬ b = 0 := fun hh => q ((lg_cmp_eq _ _).mpr hh)
      have z : ¬ ((35 : Nat) = 35 ∧ b = 0) := fun q => hb q.2
      simp +decide only [mjs_0, mjs_1, mjs_2, mjs_3, mjs_ble, true_and, Bool.false_eq_true, if_false, if_true, Nat.reduceAdd, Nat.reduceSub, Nat.reduceLeDiff, false_implies, true_implies, not_false_eq_true, not_true_eq_false, and_true]
      refine mj_blk rfl ?_
      simp +decide only [mjs_0, mjs_1, mjs_2, mjs_3, mjs_ble, true_and, Bool.false_eq_true, if_false, if_true, Nat.reduceAdd, Nat.reduceSub, Nat.reduceLeDiff, false_implies, true_implies, not_false_eq_true, not_true_eq_false, and_true]
      refine mj_blk rfl ?_
      simp +decide only [mjs_0, mjs_1, mjs_2, mjs_3, mjs_ble, true_and, Bool.false_eq_true, if_false, if_true, Nat.reduceAdd, Nat.reduceSub, Nat.reduceLeDiff, false_implies, true_implies, not_false_eq_true, not_true_eq_false, and_true]
      refine ⟨hb, ?_⟩
      rw [← e]
      exact mj_nv (K53 z none none none)
    · have hb : b = 0 := (lg_cmp_eq _ _).mp (Decidable.not_not.mp q)
      simp +decide only [mjs_0, mjs_1, mjs_2, mjs_3, mjs_ble, true_and, Bool.false_eq_true, if_false, if_true, Nat.reduceAdd, Nat.reduceSub, Nat.reduceLeDiff, false_implies, true_implies, not_false_eq_true, not_true_eq_false, and_true, mc_sh, hr, mjs_up_at, mjs_up_c, mjs_up_f]
      refine c_80 s59_1 hr' ?_
      simp +decide only [mjs_0, mjs_1, mjs_2, mjs_3, mjs_ble, true_and, Bool.false_eq_true, if_false, if_true, Nat.reduceAdd, Nat.reduceSub, Nat.reduceLeDiff, false_implies, true_implies, not_false_eq_true, not_true_eq_false, and_true]
      exact hQ3 (fun hh => hh.1 ⟨rfl, hb⟩) _ (rc_f hv h)
theorem rq_175 (hM' : mj_Rt mm_R Rf) (hJ : RR H (K, P, E, N, S, M, C, O, L) J) (hk : k < 256) (hc : code = 33 ∨ code = 34 ∨ code = 35) (hg : gl = 0 ∨ gl = 1) {D : Nat} {b : Int64}
    (hQ1 : rok code (S.1 S.2.2.1 k).toInt64 b → ∀ J', (∀ s', RR H (K, P, E, N, stS S k (rv code (S.1 S.2.2.1 k).toInt64 b).toInt32 gl s', M, C, O, L) J') → Q (.inl none) (sh59, J', Lg, Rf, nc, ns))
    (hQ3 : ¬ rok code (S.1 S.2.2.1 k).toInt64 b → ∀ J', RD H (K, P, E, N, S, M, C, O, L) J' → Q (.inl none) (sh59, J', Lg, Rf, nc, ns)) :
    mj_rn X (mj_hd []) (mj_call X mj_P (mj_bi X) (D + 5)) mb_175 126 [some (.ref 36), some (.int (nI (code - 2))), some (.int (nI gl)), none, some (.int (nI k)), none, some (.long b), none, none, none, none, none] [] (sh59, J, Lg, Rf, nc, ns) Q := by
  have hm := mm_rf hM'
  have hS := (rr_d hJ).2.2.2.2.1
  have hlv : S.2.2.1 ≤ 100 := hS.2.2.2.2
  have s3 := (hS.2.2.1 S.2.2.1 k (Nat.le_refl _) hk).1
  have e1 : (256 : Int32) * nI S.2.2.1 = nI (256 * S.2.2.1) := pk_mul 256 _
  have e2 : (nI (256 * S.2.2.1 + k)).toNatClampNeg = 256 * S.2.2.1 + k := nI_clamp (by omega)
  have R198 : ¬ (code = 35 ∧ b = 0) → mj_rn X (mj_hd []) (mj_call X mj_P (mj_bi X) (D + 5)) mb_175 198 [some (.ref 36), none, some (.int (nI gl)), none, some (.int (nI k)), none, none, none, none, none, none, none] [.long (rv code (S.1 S.2.2.1 k).toInt64 b)] (sh59, J, Lg, Rf, nc, ns) Q := by
    intro hz
    have bad : ¬ rok code (S.1 S.2.2.1 k).toInt64 b → mj_rn X (mj_hd []) (mj_call X mj_P (mj_bi X) (D + 5)) mb_175 218 [some (.ref 36), none, some (.int (nI gl)), none, some (.int (nI k)), none, none, none, none, none, some (.long (rv code (S.1 S.2.2.1 k).toInt64 b)), none] [] (sh59, J, Lg, Rf, nc, ns) Q := by
      intro q
      refine mj_blk rfl ?_
      simp +decide only [mjs_0, mjs_1, mjs_2, mjs_3, mjs_ble, true_and, Bool.false_eq_true, if_false, if_true, Nat.reduceAdd, Nat.reduceSub, Nat.reduceLeDiff, false_implies, true_implies, not_false_eq_true, not_true_eq_false, and_true, mm_sh, hm, mjs_up_at, mjs_up_c, mjs_up_f]
      refine c_106 s59_36 ?_
      rw [if_pos (rr_d hJ).1.2.2.2]
      have hJ7 := rr_f (f := 7) (by decide) (by decide) hJ
      simp +decide only [mjs_0, mjs_1, mjs_2, mjs_3, mjs_ble, true_and, Bool.false_eq_true, if_false, if_true, Nat.reduceAdd, Nat.reduceSub, Nat.reduceLeDiff, false_implies, true_implies, not_false_eq_true, not_true_eq_false, and_true, mm_sh, hm, mjs_up_at, mjs_up_c, mjs_up_f]
      refine mj_blk rfl ?_
      simp +decide only [mjs_0, mjs_1, mjs_2, mjs_3, mjs_ble, true_and, Bool.false_eq_true, if_false, if_true, Nat.reduceAdd, Nat.reduceSub, Nat.reduceLeDiff, false_implies, true_implies, not_false_eq_true, not_true_eq_false, and_true, mm_sh, hm, mjs_up_at, mjs_up_c, mjs_up_f]
      refine f_169 hM' hg hJ7 ?_
      simp +decide only [mjs_0, mjs_1, mjs_2, mjs_3, mjs_ble, true_and, Bool.false_eq_true, if_false, if_true, Nat.reduceAdd, Nat.reduceSub, Nat.reduceLeDiff, false_implies, true_implies, not_false_eq_true, not_true_eq_false, and_true, mm_sh, hm, mjs_up_at, mjs_up_c, mjs_up_f]
      exact hQ3 q _ hJ7
    refine mj_blk rfl ?_
    simp +decide only [mjs_0, mjs_1, mjs_2, mjs_3, mjs_ble, true_and, Bool.false_eq_true, if_false, if_true, Nat.reduceAdd, Nat.reduceSub, Nat.reduceLeDiff, false_implies, true_implies, not_false_eq_true, not_true_eq_false, and_true]
    refine ⟨fun q => ?_, fun q => mj_blk rfl ?_⟩
    · have q' := (lg_cmp_gt _ _).mp q
      exact mj_nv (bad (fun hh => absurd hh.2.1 (Int64.not_le.mpr q')))
    · have q1 : rv code (S.1 S.2.2.1 k).toInt64 b ≤ 2147483647 := Int64.not_lt.mp (fun hh => q ((lg_cmp_gt _ _).mpr hh))
      simp +decide only [mjs_0, mjs_1, mjs_2, mjs_3, mjs_ble, true_and, Bool.false_eq_true, if_false, if_true, Nat.reduceAdd, Nat.reduceSub, Nat.reduceLeDiff, false_implies, true_implies, not_false_eq_true, not_true_eq_false, and_true]
      refine ⟨fun q => mj_blk rfl ?_, fun q => ?_⟩
      · have q2 := (lg_cmp_ge _ _).mp q
        simp +decide only [mjs_0, mjs_1, mjs_2, mjs_3, mjs_ble, true_and, Bool.false_eq_true, if_false, if_true, Nat.reduceAdd, Nat.reduceSub, Nat.reduceLeDiff, false_implies, true_implies, not_false_eq_true, not_true_eq_false, and_true, mm_sh, hm, mjs_up_at, mjs_up_c, mjs_up_f]
        refine rq_169 (o := 10) (k := k) hM' hJ (Or.inl rfl) hk hg (fun J4 e7 => ?_)
        simp +decide only [mjs_0, mjs_1, mjs_2, mjs_3, mjs_ble, true_and, Bool.false_eq_true, if_false, if_true, Nat.reduceAdd, Nat.reduceSub, Nat.reduceLeDiff, false_implies, true_implies, not_false_eq_true, not_true_eq_false, and_true, mm_sh, hm, mjs_up_at, mjs_up_c, mjs_up_f]
        rw [show 256 * (10 - 10) + k = k by omega] at e7
        exact hQ1 ⟨hz, q1, q2⟩ J4 e7
      · exact mj_nv (bad (fun hh => q ((lg_cmp_ge _ _).mpr hh.2.2)))
  rcases hc with rfl | rfl | rfl
  · have z : ¬ ((33 : Nat) = 35 ∧ b = 0) := fun q => absurd q.1 (by decide)
    have e : rv 33 (S.1 S.2.2.1 k).toInt64 b = (S.1 S.2.2.1 k).toInt64 + b := rfl
    refine mj_blk rfl ?_
    simp +decide only [mjs_0, mjs_1, mjs_2, mjs_3, mjs_ble, true_and, Bool.false_eq_true, if_false, if_true, Nat.reduceAdd, Nat.reduceSub, Nat.reduceLeDiff, false_implies, true_implies, not_false_eq_true, not_true_eq_false, and_true, mm_sh, hm, mjs_up_at, mjs_up_c, mjs_up_f, hS.1, e1, nI_add, e2, s3]
    refine ⟨nI_in (by omega) (by decide), mj_blk rfl ?_⟩
    simp +decide only [mjs_0, mjs_1, mjs_2, mjs_3, mjs_ble, true_and, Bool.false_eq_true, if_false, if_true, Nat.reduceAdd, Nat.reduceSub, Nat.reduceLeDiff, false_implies, true_implies, not_false_eq_true, not_true_eq_false, and_true]
    refine mj_blk rfl ?_
    simp +decide only [mjs_0, mjs_1, mjs_2, mjs_3, mjs_ble, true_and, Bool.false_eq_true, if_false, if_true, Nat.reduceAdd, Nat.reduceSub, Nat.reduceLeDiff, false_implies, true_implies, not_false_eq_true, not_true_eq_false, and_true]
    rw [← e]
    exact mj_nv (R198 z)
  · have z : ¬ ((34 : Nat) = 35 ∧ b = 0) := fun q => absurd q.1 (by decide)
    have e : rv 34 (S.1 S.2.2.1 k).toInt64 b = (S.1 S.2.2.1 k).toInt64 * b := rfl
    refine mj_blk rfl ?_
    simp +decide only [mjs_0, mjs_1, mjs_2, mjs_3, mjs_ble, true_and, Bool.false_eq_true, if_false, if_true, Nat.reduceAdd, Nat.reduceSub, Nat.reduceLeDiff, false_implies, true_implies, not_false_eq_true, not_true_eq_false, and_true, mm_sh, hm, mjs_up_at, mjs_up_c, mjs_up_f, hS.1, e1, nI_add, e2, s3]
    refine ⟨nI_in (by omega) (by decide), mj_blk rfl ?_⟩
    simp +decide only [mjs_0, mjs_1, mjs_2, mjs_3, mjs_ble, true_and, Bool.false_eq_true, if_false, if_true, Nat.reduceAdd, Nat.reduceSub, Nat.reduceLeDiff, false_implies, true_implies, not_false_eq_true, not_true_eq_false, and_true]
    refine mj_blk rfl ?_
    simp +decide only [mjs_0, mjs_1, mjs_2, mjs_3, mjs_ble, true_and, Bool.false_eq_true, if_false, if_true, Nat.reduceAdd, Nat.reduceSub, Nat.reduceLeDiff, false_implies, true_implies, not_false_eq_true, not_true_eq_false, and_true]
    refine mj_blk rfl ?_
    simp +decide only [mjs_0, mjs_1, mjs_2, mjs_3, mjs_ble, true_and, Bool.false_eq_true, if_false, if_true, Nat.reduceAdd, Nat.reduceSub, Nat.reduceLeDiff, false_implies, true_implies, not_false_eq_true, not_true_eq_false, and_true]
    rw [← e]
    exact mj_nv (R198 z)
  · have e : rv 35 (S.1 S.2.2.1 k).toInt64 b = (S.1 S.2.2.1 k).toInt64 / b := rfl
    refine mj_blk rfl ?_
    simp +decide only [mjs_0, mjs_1, mjs_2, mjs_3, mjs_ble, true_and, Bool.false_eq_true, if_false, if_true, Nat.reduceAdd, Nat.reduceSub, Nat.reduceLeDiff, false_implies, true_implies, not_false_eq_true, not_true_eq_false, and_true, mm_sh, hm, mjs_up_at, mjs_up_c, mjs_up_f, hS.1, e1, nI_add, e2, s3]
    refine ⟨nI_in (by omega) (by decide), mj_blk rfl ?_⟩
    simp +decide only [mjs_0, mjs_1, mjs_2, mjs_3, mjs_ble, true_and, Bool.false_eq_true, if_false, if_true, Nat.reduceAdd, Nat.reduceSub, Nat.reduceLeDiff, false_implies, true_implies, not_false_eq_true, not_true_eq_false, and_true]
    refine ⟨fun q => mj_blk rfl ?_, fun q => mj_blk rfl ?_⟩
    · have hb : ¬ b = 0 := fun hh => q ((lg_cmp_eq _ _).mpr hh)
      have z : ¬ ((35 : Nat) = 35 ∧ b = 0) := fun q => hb q.2
      simp +decide only [mjs_0, mjs_1, mjs_2, mjs_3, mjs_ble, true_and, Bool.false_eq_true, if_false, if_true, Nat.reduceAdd, Nat.reduceSub, Nat.reduceLeDiff, false_implies, true_implies, not_false_eq_true, not_true_eq_false, and_true]
      refine mj_blk rfl ?_
      simp +decide only [mjs_0, mjs_1, mjs_2, mjs_3, mjs_ble, true_and, Bool.false_eq_true, if_false, if_true, Nat.reduceAdd, Nat.reduceSub, Nat.reduceLeDiff, false_implies, true_implies, not_false_eq_true, not_true_eq_false, and_true]
      refine mj_blk rfl ?_
      simp +decide only [mjs_0, mjs_1, mjs_2, mjs_3, mjs_ble, true_and, Bool.false_eq_true, if_false, if_true, Nat.reduceAdd, Nat.reduceSub, Nat.reduceLeDiff, false_implies, true_implies, not_false_eq_true, not_true_eq_false, and_true]
      refine ⟨hb, ?_⟩
      rw [← e]
      exact mj_nv (R198 z)
    · have hb : b = 0 := (lg_cmp_eq _ _).mp (Decidable.not_not.mp q)
      simp +decide only [mjs_0, mjs_1, mjs_2, mjs_3, mjs_ble, true_and, Bool.false_eq_true, if_false, if_true, Nat.reduceAdd, Nat.reduceSub, Nat.reduceLeDiff, false_implies, true_implies, not_false_eq_true, not_true_eq_false, and_true, mm_sh, hm, mjs_up_at, mjs_up_c, mjs_up_f]
      refine c_106 s59_36 ?_
      rw [if_pos (rr_d hJ).1.2.2.2]
      simp +decide only [mjs_0, mjs_1, mjs_2, mjs_3, mjs_ble, true_and, Bool.false_eq_true, if_false, if_true, Nat.reduceAdd, Nat.reduceSub, Nat.reduceLeDiff, false_implies, true_implies, not_false_eq_true, not_true_eq_false, and_true, mm_sh, hm, mjs_up_at, mjs_up_c, mjs_up_f]
      exact hQ3 (fun hh => hh.1 ⟨rfl, hb⟩) _ (rr_f (f := 7) (by decide) (by decide) hJ)
end MJRS
