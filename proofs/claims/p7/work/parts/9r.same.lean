/-! WHAT TOKENS MEAN THE SAME, in both -/
/-- macros with the same delimiters and bodies -/
def MS (M : sgM) (a b : Nat) : Prop := M.2.1 (a + 1) - M.2.1 a = M.2.1 (b + 1) - M.2.1 b ∧ M.2.2.1 a - M.2.1 a = M.2.2.1 b - M.2.1 b ∧ ∀ i, i < M.2.1 (a + 1) - M.2.1 a → M.1 (M.2.1 a + i) = M.1 (M.2.1 b + i)
theorem rt_pinj {k a b : Nat} (hk : k ≤ 1036) (h3 : 36 ≤ k) (ha : pv k a) (hb : pv k b) (h : rt a = rt b) : a = b := by
  have ra := pv_rt hk h3 ha
  have rb' := pv_rt hk h3 hb
  by_cases h1 : 2097152 ≤ a
  · have h2 : 2097152 ≤ b := rb'.1.mp (by rw [← h]; exact ra.1.mpr h1)
    have e1 := ra.2.1 h1
    have e2 := rb'.2.1 h2
    omega
  · have h2 : ¬ 2097152 ≤ b := fun hh => h1 (ra.1.mp (by rw [h]; exact rb'.1.mpr hh))
    have ta := (pv_pl hk ha).2 (by omega)
    have tb' := (pv_pl hk hb).2 (by omega)
    rw [rt_tb hk ta, rt_tb hk tb'] at h
    exact rb_inj hk ta tb' h
section MJSM
variable {X : mj_X} {d nc ns : Nat} {Q : mj_Q} {I I' J J' H : Nat → Nat → Int32} {Lg : Nat → Nat → Int64} {Rf : Nat → Nat → Option Nat} {fb fb' : Nat → Nat → Int32} {vb : Nat → Int32} {K K' K'' : Nat × Nat × Nat} {P P' P'' : List Nat} {E : sgE} {N N' N'' : sgN} {S S' S'' : sgS} {M : sgM} {C C' C'' : sgC} {O : sgO} {L L' L'' : sgL} {t u n kc kr a b : Nat}
theorem cq_53 (hR : mj_Rt mp_R Rf) (hv : gv (K, P, E, N, S, M, C, O, L)) (h : RC fb vb (K, P, E, N, S, M, C, O, L) I) (ha : a < M.2.2.2.2.1) (hb : b < M.2.2.2.2.1) (hQ1 : MS M a b → Q (.inl (some (.int 1))) (sh59, I, Lg, Rf, nc, ns)) (hQ0 : ¬ MS M a b → Q (.inl (some (.int 0))) (sh59, I, Lg, Rf, nc, ns)) : mj_call X mj_P (mj_bi X) (d + 2) 53 [.ref 21, .int (nI a), .int (nI b)] (sh59, I, Lg, Rf, nc, ns) Q := by
  have hr := mc_rf hR
  have gM := (gv_d hv).2.2.2.2.1
  have hmade := gvM_made gM
  have hu2 : M.2.2.2.1 ≤ 10000 := gM.2.2.1.2.1
  have hk : N.2.2 ≤ 1036 := (gv_d hv).2.2.1.2.1
  obtain ⟨a1, a2, a3, -⟩ := gM.2.1 a ha
  obtain ⟨b1, b2, b3, -⟩ := gM.2.1 b hb
  have hC := (rc_d h).2.2.2.2.2.1
  have ia : I 23 a = nI (M.2.1 a) := hC.2.2.2.1 a (by omega)
  have ib : I 23 b = nI (M.2.1 b) := hC.2.2.2.1 b (by omega)
  have ia1 : I 23 (a + 1) = nI (M.2.1 (a + 1)) := hC.2.2.2.1 (a + 1) (by omega)
  have ib1 : I 23 (b + 1) = nI (M.2.1 (b + 1)) := hC.2.2.2.1 (b + 1) (by omega)
  have ja : I 24 a = nI (M.2.2.1 a) := hC.2.2.2.2 a (by omega)
  have jb : I 24 b = nI (M.2.2.1 b) := hC.2.2.2.2 b (by omega)
  have ea : (nI a).toNatClampNeg = a := nI_clamp (by omega)
  have eb : (nI b).toNatClampNeg = b := nI_clamp (by omega)
  have s1 : nI (M.2.1 (a + 1)) - nI (M.2.1 a) = nI (M.2.1 (a + 1) - M.2.1 a) := pk_sub (by omega)
  have s2 : nI (M.2.1 (b + 1)) - nI (M.2.1 b) = nI (M.2.1 (b + 1) - M.2.1 b) := pk_sub (by omega)
  have s3 : nI (M.2.2.1 a) - nI (M.2.1 a) = nI (M.2.2.1 a - M.2.1 a) := pk_sub (by omega)
  have s4 : nI (M.2.2.1 b) - nI (M.2.1 b) = nI (M.2.2.1 b - M.2.1 b) := pk_sub (by omega)
  have no : ¬ MS M a b → mj_rn X (mj_hd []) (mj_call X mj_P (mj_bi X) (d + 1)) mb_53 58 [none, none, none, none, none] [] (sh59, I, Lg, Rf, nc, ns) Q := by
    intro hh
    refine mj_blk rfl ?_
    simp +decide only [mjs_0, mjs_1, mjs_2, mjs_3, mjs_ble, true_and, Bool.false_eq_true, if_false, if_true, Nat.reduceAdd, Nat.reduceSub, Nat.reduceLeDiff, false_implies, true_implies, not_false_eq_true, not_true_eq_false, and_true]
    exact hQ0 hh
  refine mj_enter (z := (5, [], mb_53)) (by decide) rfl rfl ?_
  refine mj_blk rfl ?_
  simp +decide only [mjs_0, mjs_1, mjs_2, mjs_3, mjs_ble, true_and, Bool.false_eq_true, if_false, if_true, Nat.reduceAdd, Nat.reduceSub, Nat.reduceLeDiff, false_implies, true_implies, not_false_eq_true, not_true_eq_false, and_true, mc_sh, hr, mjs_up_at, mjs_up_c, mjs_up_f]
  refine c_49 hR (by omega) ?_
  rw [ia1]
  simp +decide only [mjs_0, mjs_1, mjs_2, mjs_3, mjs_ble, true_and, Bool.false_eq_true, if_false, if_true, Nat.reduceAdd, Nat.reduceSub, Nat.reduceLeDiff, false_implies, true_implies, not_false_eq_true, not_true_eq_false, and_true, mc_sh, hr, mjs_up_at, mjs_up_c, mjs_up_f, ea, ia, s1]
  refine ⟨nI_in (by omega) (by decide), ?_⟩
  refine c_49 hR (by omega) ?_
  rw [ib1]
  simp +decide only [mjs_0, mjs_1, mjs_2, mjs_3, mjs_ble, true_and, Bool.false_eq_true, if_false, if_true, Nat.reduceAdd, Nat.reduceSub, Nat.reduceLeDiff, false_implies, true_implies, not_false_eq_true, not_true_eq_false, and_true, mc_sh, hr, mjs_up_at, mjs_up_c, mjs_up_f, eb, ib, s2]
  refine ⟨nI_in (by omega) (by decide), ?_⟩
  by_cases e1 : M.2.1 (a + 1) - M.2.1 a = M.2.1 (b + 1) - M.2.1 b
  · refine ⟨fun q => absurd (by rw [e1]) q, fun _ => mj_blk rfl ?_⟩
    simp +decide only [mjs_0, mjs_1, mjs_2, mjs_3, mjs_ble, true_and, Bool.false_eq_true, if_false, if_true, Nat.reduceAdd, Nat.reduceSub, Nat.reduceLeDiff, false_implies, true_implies, not_false_eq_true, not_true_eq_false, and_true, mc_sh, hr, mjs_up_at, mjs_up_c, mjs_up_f, ea, eb, ia, ib, ja, jb, s3, s4]
    refine ⟨nI_in (by omega) (by decide), nI_in (by omega) (by decide), nI_in (by omega) (by decide), nI_in (by omega) (by decide), ?_⟩
    by_cases e2 : M.2.2.1 a - M.2.1 a = M.2.2.1 b - M.2.1 b
    · refine ⟨fun _ => mj_blk rfl ?_, fun q => absurd (by rw [e2]) q⟩
      have lp : ∀ j i, i + j = M.2.1 (a + 1) - M.2.1 a → (∀ q, q < i → M.1 (M.2.1 a + q) = M.1 (M.2.1 b + q)) → mj_rn X (mj_hd []) (mj_call X mj_P (mj_bi X) (d + 1)) mb_53 63 [some (.ref 21), some (.int (nI a)), some (.int (nI b)), some (.int (nI (M.2.1 (a + 1) - M.2.1 a))), some (.int (nI i))] [] (sh59, I, Lg, Rf, nc, ns) Q := by
        intro j
        induction j with
        | zero =>
          intro i hi hh
          refine mj_blk rfl ?_
          simp +decide only [mjs_0, mjs_1, mjs_2, mjs_3, mjs_ble, true_and, Bool.false_eq_true, if_false, if_true, Nat.reduceAdd, Nat.reduceSub, Nat.reduceLeDiff, false_implies, true_implies, not_false_eq_true, not_true_eq_false, and_true]
          refine ⟨fun _ => mj_blk rfl ?_, fun q => absurd (nI_le (a := M.2.1 (a + 1) - M.2.1 a) (b := i) (by omega) (by omega)) q⟩
          simp +decide only [mjs_0, mjs_1, mjs_2, mjs_3, mjs_ble, true_and, Bool.false_eq_true, if_false, if_true, Nat.reduceAdd, Nat.reduceSub, Nat.reduceLeDiff, false_implies, true_implies, not_false_eq_true, not_true_eq_false, and_true]
          exact hQ1 ⟨e1, e2, fun q hq => hh q (by omega)⟩
        | succ j ih =>
          intro i hi hh
          have x1 : (nI (M.2.1 a + i)).toNatClampNeg = M.2.1 a + i := nI_clamp (by omega)
          have x2 : (nI (M.2.1 b + i)).toNatClampNeg = M.2.1 b + i := nI_clamp (by omega)
          have t1 : I 22 (M.2.1 a + i) = nI (M.1 (M.2.1 a + i)) := hC.2.2.1 _ (by omega)
          have t2 : I 22 (M.2.1 b + i) = nI (M.1 (M.2.1 b + i)) := hC.2.2.1 _ (by omega)
          have p1 := pv_lt hk (gM.2.2.2 (M.2.1 a + i) (by omega))
          have p2 := pv_lt hk (gM.2.2.2 (M.2.1 b + i) (by omega))
          refine mj_blk rfl ?_
          simp +decide only [mjs_0, mjs_1, mjs_2, mjs_3, mjs_ble, true_and, Bool.false_eq_true, if_false, if_true, Nat.reduceAdd, Nat.reduceSub, Nat.reduceLeDiff, false_implies, true_implies, not_false_eq_true, not_true_eq_false, and_true]
          refine ⟨fun q => absurd q (nI_ge (a := i) (b := M.2.1 (a + 1) - M.2.1 a) (by omega) (by omega)), fun _ => mj_blk rfl ?_⟩
          simp +decide only [mjs_0, mjs_1, mjs_2, mjs_3, mjs_ble, true_and, Bool.false_eq_true, if_false, if_true, Nat.reduceAdd, Nat.reduceSub, Nat.reduceLeDiff, false_implies, true_implies, not_false_eq_true, not_true_eq_false, and_true, mc_sh, hr, mjs_up_at, mjs_up_c, mjs_up_f, ea, eb, ia, ib, nI_add, x1, x2, t1, t2]
          refine ⟨nI_in (by omega) (by decide), nI_in (by omega) (by decide), nI_in (by omega) (by decide), nI_in (by omega) (by decide), ?_⟩
          by_cases e : M.1 (M.2.1 a + i) = M.1 (M.2.1 b + i)
          · refine ⟨fun _ => mj_blk rfl ?_, fun q => absurd (by rw [e]) q⟩
            simp +decide only [mjs_0, mjs_1, mjs_2, mjs_3, mjs_ble, true_and, Bool.false_eq_true, if_false, if_true, Nat.reduceAdd, Nat.reduceSub, Nat.reduceLeDiff, false_implies, true_implies, not_false_eq_true, not_true_eq_false, and_true, nI_1]
            refine mj_nv (ih (i + 1) (by omega) (fun q hq => ?_))
            by_cases eq : q = i
            · rw [eq]
              exact e
            · exact hh q (by omega)
          · refine ⟨fun q => absurd ((nI_eq (by omega) (by omega)).mp q) e, fun _ => mj_blk rfl ?_⟩
            simp +decide only [mjs_0, mjs_1, mjs_2, mjs_3, mjs_ble, true_and, Bool.false_eq_true, if_false, if_true, Nat.reduceAdd, Nat.reduceSub, Nat.reduceLeDiff, false_implies, true_implies, not_false_eq_true, not_true_eq_false, and_true]
            exact hQ0 (fun hm => e (hm.2.2 i (by omega)))
      simp +decide only [mjs_0, mjs_1, mjs_2, mjs_3, mjs_ble, true_and, Bool.false_eq_true, if_false, if_true, Nat.reduceAdd, Nat.reduceSub, Nat.reduceLeDiff, false_implies, true_implies, not_false_eq_true, not_true_eq_false, and_true]
      exact mj_nv (lp _ 0 (Nat.zero_add _) (fun q hq => absurd hq (Nat.not_lt_zero _)))
    · refine ⟨fun q => absurd ((nI_eq (by omega) (by omega)).mp q) e2, fun _ => mj_nv (no (fun hm => e2 hm.2.1))⟩
  · have ne : ¬ nI (M.2.1 (a + 1) - M.2.1 a) = nI (M.2.1 (b + 1) - M.2.1 b) := fun q => e1 ((nI_eq (by omega) (by omega)).mp q)
    exact ⟨fun _ => mj_nv (no (fun hm => e1 hm.1)), fun q => absurd ne q⟩
/-- two tokens mean the same -/
def TS (S : sgS) (M : sgM) (t u : Nat) : Prop := if gm S t / 65536 = 2 ∧ gm S u / 65536 = 2 then MS M (gm S t % 65536) (gm S u % 65536) else gm S t = gm S u
theorem gm_mac (hv : gv (K, P, E, N, S, M, C, O, L)) (ht : tv N.2.2 t) (h2 : gm S t / 65536 = 2) : gm S t % 65536 < M.2.2.2.2.1 ∧ gm S t = 131072 + gm S t % 65536 := by
  rcases (gm_v hv ht).1 with z | ⟨z1, z2⟩ | ⟨a, z1, z2⟩ | ⟨z1, z2⟩ | ⟨z1, z2⟩
  · omega
  · omega
  · have := gvM_made (gv_d hv).2.2.2.2.1
    have : a < 65536 := by omega
    omega
  · omega
  · omega
theorem cq_37 (hR : mj_Rt mp_R Rf) (hv : gv (K, P, E, N, S, M, C, O, L)) (h : RC fb vb (K, P, E, N, S, M, C, O, L) I) (ht : tv N.2.2 t) (hu : tv N.2.2 u) (hQ1 : TS S M t u → Q (.inl (some (.int 1))) (sh59, I, Lg, Rf, nc, ns)) (hQ0 : ¬ TS S M t u → Q (.inl (some (.int 0))) (sh59, I, Lg, Rf, nc, ns)) : mj_call X mj_P (mj_bi X) (d + 3) 37 [.ref 28, .int (nI t), .int (nI u)] (sh59, I, Lg, Rf, nc, ns) Q := by
  have hr := mc_rf hR
  have lt := gm_lt hv ht
  have lu := gm_lt hv hu
  have plain : ¬ (gm S t / 65536 = 2 ∧ gm S u / 65536 = 2) → mj_rn X (mj_hd []) (mj_call X mj_P (mj_bi X) (d + 2)) mb_37 53 [none, none, none, some (.int (nI (gm S t))), some (.int (nI (gm S u)))] [] (sh59, I, Lg, Rf, nc, ns) Q := by
    intro hh
    unfold TS at hQ1 hQ0
    rw [if_neg hh] at hQ1 hQ0
    refine mj_blk rfl ?_
    simp +decide only [mjs_0, mjs_1, mjs_2, mjs_3, mjs_ble, true_and, Bool.false_eq_true, if_false, if_true, Nat.reduceAdd, Nat.reduceSub, Nat.reduceLeDiff, false_implies, true_implies, not_false_eq_true, not_true_eq_false, and_true]
    by_cases e : gm S t = gm S u
    · refine ⟨fun q => absurd (by rw [e]) q, fun _ => mj_blk rfl ?_⟩
      simp +decide only [mjs_0, mjs_1, mjs_2, mjs_3, mjs_ble, true_and, Bool.false_eq_true, if_false, if_true, Nat.reduceAdd, Nat.reduceSub, Nat.reduceLeDiff, false_implies, true_implies, not_false_eq_true, not_true_eq_false, and_true]
      refine mj_blk rfl ?_
      simp +decide only [mjs_0, mjs_1, mjs_2, mjs_3, mjs_ble, true_and, Bool.false_eq_true, if_false, if_true, Nat.reduceAdd, Nat.reduceSub, Nat.reduceLeDiff, false_implies, true_implies, not_false_eq_true, not_true_eq_false, and_true]
      exact hQ1 e
    · have ne : ¬ nI (gm S t) = nI (gm S u) := fun q => e ((nI_eq (by omega) (by omega)).mp q)
      refine ⟨fun _ => mj_blk rfl ?_, fun q => absurd ne q⟩
      simp +decide only [mjs_0, mjs_1, mjs_2, mjs_3, mjs_ble, true_and, Bool.false_eq_true, if_false, if_true, Nat.reduceAdd, Nat.reduceSub, Nat.reduceLeDiff, false_implies, true_implies, not_false_eq_true, not_true_eq_false, and_true]
      refine mj_blk rfl ?_
      simp +decide only [mjs_0, mjs_1, mjs_2, mjs_3, mjs_ble, true_and, Bool.false_eq_true, if_false, if_true, Nat.reduceAdd, Nat.reduceSub, Nat.reduceLeDiff, false_implies, true_implies, not_false_eq_true, not_true_eq_false, and_true]
      exact hQ0 e
  refine mj_enter (z := (5, [], mb_37)) (by decide) rfl rfl ?_
  refine mj_blk rfl ?_
  simp +decide only [mjs_0, mjs_1, mjs_2, mjs_3, mjs_ble, true_and, Bool.false_eq_true, if_false, if_true, Nat.reduceAdd, Nat.reduceSub, Nat.reduceLeDiff, false_implies, true_implies, not_false_eq_true, not_true_eq_false, and_true, mc_sh, hr, mjs_up_at, mjs_up_c, mjs_up_f]
  refine cq_96 hR h hv ht ?_
  simp +decide only [mjs_0, mjs_1, mjs_2, mjs_3, mjs_ble, true_and, Bool.false_eq_true, if_false, if_true, Nat.reduceAdd, Nat.reduceSub, Nat.reduceLeDiff, false_implies, true_implies, not_false_eq_true, not_true_eq_false, and_true, mc_sh, hr, mjs_up_at, mjs_up_c, mjs_up_f]
  refine cq_96 hR h hv hu ?_
  simp +decide only [mjs_0, mjs_1, mjs_2, mjs_3, mjs_ble, true_and, Bool.false_eq_true, if_false, if_true, Nat.reduceAdd, Nat.reduceSub, Nat.reduceLeDiff, false_implies, true_implies, not_false_eq_true, not_true_eq_false, and_true, mc_sh, hr, mjs_up_at, mjs_up_c, mjs_up_f]
  refine c_93 (by omega) ?_
  simp +decide only [mjs_0, mjs_1, mjs_2, mjs_3, mjs_ble, true_and, Bool.false_eq_true, if_false, if_true, Nat.reduceAdd, Nat.reduceSub, Nat.reduceLeDiff, false_implies, true_implies, not_false_eq_true, not_true_eq_false, and_true]
  by_cases e1 : gm S t / 65536 = 2
  · simp +decide only [mjs_0, mjs_1, mjs_2, mjs_3, mjs_ble, true_and, Bool.false_eq_true, if_false, if_true, Nat.reduceAdd, Nat.reduceSub, Nat.reduceLeDiff, false_implies, true_implies, not_false_eq_true, not_true_eq_false, and_true, e1]
    refine mj_blk rfl ?_
    simp +decide only [mjs_0, mjs_1, mjs_2, mjs_3, mjs_ble, true_and, Bool.false_eq_true, if_false, if_true, Nat.reduceAdd, Nat.reduceSub, Nat.reduceLeDiff, false_implies, true_implies, not_false_eq_true, not_true_eq_false, and_true]
    refine c_93 (by omega) ?_
    simp +decide only [mjs_0, mjs_1, mjs_2, mjs_3, mjs_ble, true_and, Bool.false_eq_true, if_false, if_true, Nat.reduceAdd, Nat.reduceSub, Nat.reduceLeDiff, false_implies, true_implies, not_false_eq_true, not_true_eq_false, and_true]
    by_cases e2 : gm S u / 65536 = 2
    · obtain ⟨m1, m2⟩ := gm_mac hv ht e1
      obtain ⟨m3, m4⟩ := gm_mac hv hu e2
      unfold TS at hQ1 hQ0
      rw [if_pos ⟨e1, e2⟩] at hQ1 hQ0
      simp +decide only [mjs_0, mjs_1, mjs_2, mjs_3, mjs_ble, true_and, Bool.false_eq_true, if_false, if_true, Nat.reduceAdd, Nat.reduceSub, Nat.reduceLeDiff, false_implies, true_implies, not_false_eq_true, not_true_eq_false, and_true, e2]
      refine mj_blk rfl ?_
      simp +decide only [mjs_0, mjs_1, mjs_2, mjs_3, mjs_ble, true_and, Bool.false_eq_true, if_false, if_true, Nat.reduceAdd, Nat.reduceSub, Nat.reduceLeDiff, false_implies, true_implies, not_false_eq_true, not_true_eq_false, and_true, mc_sh, hr, mjs_up_at, mjs_up_c, mjs_up_f]
      refine c_94 ?_
      simp +decide only [mjs_0, mjs_1, mjs_2, mjs_3, mjs_ble, true_and, Bool.false_eq_true, if_false, if_true, Nat.reduceAdd, Nat.reduceSub, Nat.reduceLeDiff, false_implies, true_implies, not_false_eq_true, not_true_eq_false, and_true, mc_sh, hr, mjs_up_at, mjs_up_c, mjs_up_f]
      refine c_94 ?_
      simp +decide only [mjs_0, mjs_1, mjs_2, mjs_3, mjs_ble, true_and, Bool.false_eq_true, if_false, if_true, Nat.reduceAdd, Nat.reduceSub, Nat.reduceLeDiff, false_implies, true_implies, not_false_eq_true, not_true_eq_false, and_true, mc_sh, hr, mjs_up_at, mjs_up_c, mjs_up_f]
      refine cq_53 hR hv h m1 m3 (fun hh => ?_) (fun hh => ?_)
      · simp +decide only [mjs_0, mjs_1, mjs_2, mjs_3, mjs_ble, true_and, Bool.false_eq_true, if_false, if_true, Nat.reduceAdd, Nat.reduceSub, Nat.reduceLeDiff, false_implies, true_implies, not_false_eq_true, not_true_eq_false, and_true]
        exact hQ1 hh
      · simp +decide only [mjs_0, mjs_1, mjs_2, mjs_3, mjs_ble, true_and, Bool.false_eq_true, if_false, if_true, Nat.reduceAdd, Nat.reduceSub, Nat.reduceLeDiff, false_implies, true_implies, not_false_eq_true, not_true_eq_false, and_true]
        exact hQ0 hh
    · have n2 : ¬ nI (gm S u / 65536) = 2 := fun q => e2 ((nI_eq (by omega) (by decide)).mp (show nI (gm S u / 65536) = nI 2 from q))
      exact ⟨fun _ => mj_nv (plain (fun hh => e2 hh.2)), fun q => absurd n2 q⟩
  · have n1 : ¬ nI (gm S t / 65536) = 2 := fun q => e1 ((nI_eq (by omega) (by decide)).mp (show nI (gm S t / 65536) = nI 2 from q))
    exact ⟨fun _ => mj_nv (plain (fun hh => e1 hh.1)), fun q => absurd n1 q⟩
/-- the reference's rows of a macro -/
def mcR (M : sgM) (J : Nat → Nat → Int32) (a b : Nat) : Prop := ∃ s bo e, b < 30001 ∧ s ≤ bo ∧ bo ≤ e ∧ e ≤ 10000 ∧ J 49 b = nI s ∧ J 50 b = nI bo ∧ J 51 b = nI e ∧ e - s = M.2.1 (a + 1) - M.2.1 a ∧ bo - s = M.2.2.1 a - M.2.1 a ∧ (s < e → s = M.2.1 a ∧ e ≤ M.2.2.2.1)
theorem mcR_of {k : Nat} (gM : gvM k M) (h : mq M (J 48) (J 49) (J 50) (J 51) a b) (hb : b < 30001) : mcR M J a b := by
  obtain ⟨h1, h2, h3, h4⟩ := h
  obtain ⟨a1, a2, a3, -⟩ := gM.2.1 a h1
  have hu2 : M.2.2.2.1 ≤ 10000 := gM.2.2.1.2.1
  by_cases e : a = 0
  · obtain ⟨_, z, z1, z2, z3, z4⟩ := h4 e
    subst e
    have g1 := gM.1.2.1
    have g2 := gM.1.2.2.1
    have g3 := gM.1.2.2.2
    exact ⟨z, z, z, hb, Nat.le_refl _, Nat.le_refl _, z1, z2, z3, z4, by rw [Nat.zero_add, g1, g2]; omega, by rw [g1, g3]; omega, fun hh => absurd hh (Nat.lt_irrefl _)⟩
  · obtain ⟨z1, z2, z3, _⟩ := h3 e
    exact ⟨_, _, _, hb, a1, a2, by omega, z1, z2, z3, rfl, rfl, fun _ => ⟨rfl, a3⟩⟩
theorem rq_149m (hM' : mj_Rt mm_R Rf) (hv : gv (K, P, E, N, S, M, C, O, L)) (hJ : RR H (K, P, E, N, S, M, C, O, L) J) {a' b' : Nat} (h1 : mcR M J a a') (h2 : mcR M J b b') (hQ1 : MS M a b → Q (.inl (some (.int 1))) (sh59, J, Lg, Rf, nc, ns)) (hQ0 : ¬ MS M a b → Q (.inl (some (.int 0))) (sh59, J, Lg, Rf, nc, ns)) : mj_rn X (mj_hd []) (mj_call X mj_P (mj_bi X) d) mb_149 33 [some (.ref 36), some (.int (nI (100000 + a'))), some (.int (nI (100000 + b'))), none, none, none, none] [] (sh59, J, Lg, Rf, nc, ns) Q := by
  have hm := mm_rf hM'
  have hk : N.2.2 ≤ 1036 := (gv_d hv).2.2.1.2.1
  have hk1 : 36 ≤ N.2.2 := (gv_d hv).2.2.1.1
  have gM := (gv_d hv).2.2.2.2.1
  have hu2 : M.2.2.2.1 ≤ 10000 := gM.2.2.1.2.1
  obtain ⟨s, bo, e, p0, p1, p2, p3, p4, p5, p6, p7, p8, p9⟩ := h1
  obtain ⟨s', bo', e', q0, q1, q2, q3, q4, q5, q6, q7, q8, q9⟩ := h2
  have ea : nI (100000 + a') - 100000 = nI a' := by
    rw [show (100000 : Int32) = nI 100000 from rfl, pk_sub (by omega), Nat.add_sub_cancel_left]
  have eb : nI (100000 + b') - 100000 = nI b' := by
    rw [show (100000 : Int32) = nI 100000 from rfl, pk_sub (by omega), Nat.add_sub_cancel_left]
  have ca : (nI a').toNatClampNeg = a' := nI_clamp (by omega)
  have cb : (nI b').toNatClampNeg = b' := nI_clamp (by omega)
  have u1 : nI bo - nI s = nI (bo - s) := pk_sub p1
  have u2 : nI bo' - nI s' = nI (bo' - s') := pk_sub q1
  have u3 : nI e - nI s = nI (e - s) := pk_sub (by omega)
  have u4 : nI e' - nI s' = nI (e' - s') := pk_sub (by omega)
  have zer : ∀ w6 : Option Value, ¬ MS M a b → mj_rn X (mj_hd []) (mj_call X mj_P (mj_bi X) d) mb_149 116 [some (.ref 36), none, none, some (.int (nI a')), some (.int (nI b')), some (.int 0), w6] [] (sh59, J, Lg, Rf, nc, ns) Q := by
    intro w6 hh
    refine mj_blk rfl ?_
    simp +decide only [mjs_0, mjs_1, mjs_2, mjs_3, mjs_ble, true_and, Bool.false_eq_true, if_false, if_true, Nat.reduceAdd, Nat.reduceSub, Nat.reduceLeDiff, false_implies, true_implies, not_false_eq_true, not_true_eq_false, and_true]
    refine mj_blk rfl ?_
    simp +decide only [mjs_0, mjs_1, mjs_2, mjs_3, mjs_ble, true_and, Bool.false_eq_true, if_false, if_true, Nat.reduceAdd, Nat.reduceSub, Nat.reduceLeDiff, false_implies, true_implies, not_false_eq_true, not_true_eq_false, and_true]
    exact hQ0 hh
  have no : ¬ MS M a b → mj_rn X (mj_hd []) (mj_call X mj_P (mj_bi X) d) mb_149 110 [some (.ref 36), none, none, some (.int (nI a')), some (.int (nI b')), none, none] [] (sh59, J, Lg, Rf, nc, ns) Q := by
    intro hh
    refine mj_blk rfl ?_
    simp +decide only [mjs_0, mjs_1, mjs_2, mjs_3, mjs_ble, true_and, Bool.false_eq_true, if_false, if_true, Nat.reduceAdd, Nat.reduceSub, Nat.reduceLeDiff, false_implies, true_implies, not_false_eq_true, not_true_eq_false, and_true]
    refine mj_blk rfl ?_
    simp +decide only [mjs_0, mjs_1, mjs_2, mjs_3, mjs_ble, true_and, Bool.false_eq_true, if_false, if_true, Nat.reduceAdd, Nat.reduceSub, Nat.reduceLeDiff, false_implies, true_implies, not_false_eq_true, not_true_eq_false, and_true]
    exact mj_nv (zer (some (.int 0)) hh)
  refine mj_blk rfl ?_
  simp +decide only [mjs_0, mjs_1, mjs_2, mjs_3, mjs_ble, true_and, Bool.false_eq_true, if_false, if_true, Nat.reduceAdd, Nat.reduceSub, Nat.reduceLeDiff, false_implies, true_implies, not_false_eq_true, not_true_eq_false, and_true, mm_sh, hm, mjs_up_at, mjs_up_c, mjs_up_f, ea, eb, ca, cb, p4, p5, q4, q5, u1, u2]
  refine ⟨nI_in (by omega) (by decide), nI_in (by omega) (by decide), nI_in (by omega) (by decide), nI_in (by omega) (by decide), ?_⟩
  by_cases e2 : bo - s = bo' - s'
  · refine ⟨fun q => absurd (by rw [e2]) q, fun _ => mj_blk rfl ?_⟩
    simp +decide only [mjs_0, mjs_1, mjs_2, mjs_3, mjs_ble, true_and, Bool.false_eq_true, if_false, if_true, Nat.reduceAdd, Nat.reduceSub, Nat.reduceLeDiff, false_implies, true_implies, not_false_eq_true, not_true_eq_false, and_true, mm_sh, hm, mjs_up_at, mjs_up_c, mjs_up_f, ca, cb, p4, p6, q4, q6, u3, u4]
    refine ⟨nI_in (by omega) (by decide), nI_in (by omega) (by decide), nI_in (by omega) (by decide), nI_in (by omega) (by decide), ?_⟩
    by_cases e1 : e - s = e' - s'
    · refine ⟨fun q => absurd (by rw [e1]) q, fun _ => mj_blk rfl ?_⟩
      have lp : ∀ j i, i + j = e - s → (∀ q, q < i → M.1 (M.2.1 a + q) = M.1 (M.2.1 b + q)) → mj_rn X (mj_hd []) (mj_call X mj_P (mj_bi X) d) mb_149 116 [some (.ref 36), none, none, some (.int (nI a')), some (.int (nI b')), some (.int 1), some (.int (nI i))] [] (sh59, J, Lg, Rf, nc, ns) Q := by
        intro j
        induction j with
        | zero =>
          intro i hi hh
          refine mj_blk rfl ?_
          simp +decide only [mjs_0, mjs_1, mjs_2, mjs_3, mjs_ble, true_and, Bool.false_eq_true, if_false, if_true, Nat.reduceAdd, Nat.reduceSub, Nat.reduceLeDiff, false_implies, true_implies, not_false_eq_true, not_true_eq_false, and_true]
          refine mj_blk rfl ?_
          simp +decide only [mjs_0, mjs_1, mjs_2, mjs_3, mjs_ble, true_and, Bool.false_eq_true, if_false, if_true, Nat.reduceAdd, Nat.reduceSub, Nat.reduceLeDiff, false_implies, true_implies, not_false_eq_true, not_true_eq_false, and_true, mm_sh, hm, mjs_up_at, mjs_up_c, mjs_up_f, ca, p4, p6, u3]
          refine ⟨nI_in (by omega) (by decide), nI_in (by omega) (by decide), fun _ => mj_blk rfl ?_, fun q => absurd (nI_le (a := e - s) (b := i) (by omega) (by omega)) q⟩
          simp +decide only [mjs_0, mjs_1, mjs_2, mjs_3, mjs_ble, true_and, Bool.false_eq_true, if_false, if_true, Nat.reduceAdd, Nat.reduceSub, Nat.reduceLeDiff, false_implies, true_implies, not_false_eq_true, not_true_eq_false, and_true]
          exact hQ1 ⟨by omega, by omega, fun q hq => hh q (by omega)⟩
        | succ j ih =>
          intro i hi hh
          have hs := p9 (by omega)
          have hs' := q9 (by omega)
          have x1 : (nI (s + i)).toNatClampNeg = s + i := nI_clamp (by omega)
          have x2 : (nI (s' + i)).toNatClampNeg = s' + i := nI_clamp (by omega)
          have t1 : J 52 (s + i) = nI (rt (M.1 (s + i))) := (rr_d hJ).2.2.2.2.2.1.2.2 _ (by omega)
          have t2 : J 52 (s' + i) = nI (rt (M.1 (s' + i))) := (rr_d hJ).2.2.2.2.2.1.2.2 _ (by omega)
          have g1 := gM.2.2.2 (s + i) (by omega)
          have g2 := gM.2.2.2 (s' + i) (by omega)
          have r1 := (pv_rt hk hk1 g1).2.2
          have r2 := (pv_rt hk hk1 g2).2.2
          refine mj_blk rfl ?_
          simp +decide only [mjs_0, mjs_1, mjs_2, mjs_3, mjs_ble, true_and, Bool.false_eq_true, if_false, if_true, Nat.reduceAdd, Nat.reduceSub, Nat.reduceLeDiff, false_implies, true_implies, not_false_eq_true, not_true_eq_false, and_true]
          refine mj_blk rfl ?_
          simp +decide only [mjs_0, mjs_1, mjs_2, mjs_3, mjs_ble, true_and, Bool.false_eq_true, if_false, if_true, Nat.reduceAdd, Nat.reduceSub, Nat.reduceLeDiff, false_implies, true_implies, not_false_eq_true, not_true_eq_false, and_true, mm_sh, hm, mjs_up_at, mjs_up_c, mjs_up_f, ca, p4, p6, u3]
          refine ⟨nI_in (by omega) (by decide), nI_in (by omega) (by decide), fun q => absurd q (nI_ge (a := i) (b := e - s) (by omega) (by omega)), fun _ => mj_blk rfl ?_⟩
          simp +decide only [mjs_0, mjs_1, mjs_2, mjs_3, mjs_ble, true_and, Bool.false_eq_true, if_false, if_true, Nat.reduceAdd, Nat.reduceSub, Nat.reduceLeDiff, false_implies, true_implies, not_false_eq_true, not_true_eq_false, and_true, mm_sh, hm, mjs_up_at, mjs_up_c, mjs_up_f, ca, cb, p4, q4, nI_add, x1, x2, t1, t2]
          refine ⟨nI_in (by omega) (by decide), nI_in (by omega) (by decide), nI_in (by omega) (by decide), nI_in (by omega) (by decide), ?_⟩
          by_cases ee : M.1 (s + i) = M.1 (s' + i)
          · refine ⟨fun q => absurd (by rw [ee]) q, fun _ => mj_blk rfl ?_⟩
            simp +decide only [mjs_0, mjs_1, mjs_2, mjs_3, mjs_ble, true_and, Bool.false_eq_true, if_false, if_true, Nat.reduceAdd, Nat.reduceSub, Nat.reduceLeDiff, false_implies, true_implies, not_false_eq_true, not_true_eq_false, and_true]
            refine mj_blk rfl ?_
            simp +decide only [mjs_0, mjs_1, mjs_2, mjs_3, mjs_ble, true_and, Bool.false_eq_true, if_false, if_true, Nat.reduceAdd, Nat.reduceSub, Nat.reduceLeDiff, false_implies, true_implies, not_false_eq_true, not_true_eq_false, and_true, nI_1]
            refine mj_nv (ih (i + 1) (by omega) (fun q hq => ?_))
            by_cases eq : q = i
            · rw [eq, ← hs.1, ← hs'.1]
              exact ee
            · exact hh q (by omega)
          · have ne : ¬ nI (rt (M.1 (s + i))) = nI (rt (M.1 (s' + i))) := fun q => ee (rt_pinj hk hk1 g1 g2 ((nI_eq r1 r2).mp q))
            refine ⟨fun _ => mj_blk rfl ?_, fun q => absurd ne q⟩
            simp +decide only [mjs_0, mjs_1, mjs_2, mjs_3, mjs_ble, true_and, Bool.false_eq_true, if_false, if_true, Nat.reduceAdd, Nat.reduceSub, Nat.reduceLeDiff, false_implies, true_implies, not_false_eq_true, not_true_eq_false, and_true]
            refine mj_blk rfl ?_
            simp +decide only [mjs_0, mjs_1, mjs_2, mjs_3, mjs_ble, true_and, Bool.false_eq_true, if_false, if_true, Nat.reduceAdd, Nat.reduceSub, Nat.reduceLeDiff, false_implies, true_implies, not_false_eq_true, not_true_eq_false, and_true, nI_1]
            refine mj_nv (zer (some (.int (nI (i + 1)))) (fun hms => ee ?_))
            have := hms.2.2 i (by omega)
            rw [← hs.1, ← hs'.1] at this
            exact this
      simp +decide only [mjs_0, mjs_1, mjs_2, mjs_3, mjs_ble, true_and, Bool.false_eq_true, if_false, if_true, Nat.reduceAdd, Nat.reduceSub, Nat.reduceLeDiff, false_implies, true_implies, not_false_eq_true, not_true_eq_false, and_true]
      refine mj_blk rfl ?_
      simp +decide only [mjs_0, mjs_1, mjs_2, mjs_3, mjs_ble, true_and, Bool.false_eq_true, if_false, if_true, Nat.reduceAdd, Nat.reduceSub, Nat.reduceLeDiff, false_implies, true_implies, not_false_eq_true, not_true_eq_false, and_true]
      exact mj_nv (lp _ 0 (Nat.zero_add _) (fun q hq => absurd hq (Nat.not_lt_zero _)))
    · have ne : ¬ nI (e - s) = nI (e' - s') := fun q => e1 ((nI_eq (by omega) (by omega)).mp q)
      exact ⟨fun _ => mj_nv (no (fun hm => e1 (by have := hm.1; omega))), fun q => absurd ne q⟩
  · have ne : ¬ nI (bo - s) = nI (bo' - s') := fun q => e2 ((nI_eq (by omega) (by omega)).mp q)
    exact ⟨fun _ => mj_nv (no (fun hm => e2 (by have := hm.2.1; omega))), fun q => absurd ne q⟩
theorem MS_same {a' : Nat} (h1 : mcR M J a a') (h2 : mcR M J b a') : MS M a b := by
  obtain ⟨s, bo, e, p0, p1, p2, p3, p4, p5, p6, p7, p8, p9⟩ := h1
  obtain ⟨s', bo', e', q0, q1, q2, q3, q4, q5, q6, q7, q8, q9⟩ := h2
  have i1 : s = s' := (nI_eq (by omega) (by omega)).mp (p4.symm.trans q4)
  have i2 : bo = bo' := (nI_eq (by omega) (by omega)).mp (p5.symm.trans q5)
  have i3 : e = e' := (nI_eq (by omega) (by omega)).mp (p6.symm.trans q6)
  subst i1 i2 i3
  refine ⟨by omega, by omega, fun i hi => ?_⟩
  have z1 := (p9 (by omega)).1
  have z2 := (q9 (by omega)).1
  rw [← z1, ← z2]
/-- the reference's meaning as a number -/
theorem mw_phi {pa hd bd en : Nat → Int32} {z k : Nat} {y : Int32} (hM : gvM k M) (hz : z < 262400) (h : mw M pa hd bd en (nI z) y) : ∃ f, y = nI f ∧ f < 2 ^ 31 ∧ (z = 0 ∧ f = 0 ∨ (∃ p, p < 36 ∧ z = 65537 + p ∧ f = 1000 + rp p ∧ rp p < 36) ∨ (131072 ≤ z ∧ z < 196608 ∧ 100000 ≤ f ∧ f < 2000000) ∨ (196608 ≤ z ∧ z < 199936 ∧ f = 1803392 + z) ∨ (262144 ≤ z ∧ f = 2737856 + z)) := by
  have hmade := gvM_made hM
  rcases mw_n hM (by omega) h with ⟨z, y⟩ | ⟨p, p1, p2, z, y⟩ | ⟨a, b, z, b1, y, q⟩ | ⟨c, c1, z, y⟩ | ⟨m, m1, z, y⟩
  · exact ⟨0, y, by decide, Or.inl ⟨z, rfl⟩⟩
  · have := rp_lt (i := p - 1) (k := 36) (by omega) (by decide)
    exact ⟨_, y, by omega, Or.inr (Or.inl ⟨p - 1, by omega, by omega, rfl, this⟩)⟩
  · have := q.1
    exact ⟨_, y, by omega, Or.inr (Or.inr (Or.inl ⟨by omega, by omega, by omega, by omega⟩))⟩
  · exact ⟨_, y, by omega, Or.inr (Or.inr (Or.inr (Or.inl ⟨by omega, by omega, by omega⟩)))⟩
  · exact ⟨_, y, by omega, Or.inr (Or.inr (Or.inr (Or.inr ⟨by omega, by omega⟩)))⟩
theorem rq_149 (hM' : mj_Rt mm_R Rf) (hv : gv (K, P, E, N, S, M, C, O, L)) (hJ : RR H (K, P, E, N, S, M, C, O, L) J) (ht : tv N.2.2 t) (hu : tv N.2.2 u) (hQ1 : TS S M t u → Q (.inl (some (.int 1))) (sh59, J, Lg, Rf, nc, ns)) (hQ0 : ¬ TS S M t u → Q (.inl (some (.int 0))) (sh59, J, Lg, Rf, nc, ns)) : mj_call X mj_P (mj_bi X) (d + 1) 149 [.ref 36, .int (mr_me J 36 S.2.2.1 (rt t)), .int (mr_me J 36 S.2.2.1 (rt u))] (sh59, J, Lg, Rf, nc, ns) Q := by
  have hm := mm_rf hM'
  have gM := (gv_d hv).2.2.2.2.1
  have hmade := gvM_made gM
  have lt := gm_lt hv ht
  have lu := gm_lt hv hu
  have w1 := (rr_me hJ hv ht).1
  have w2 := (rr_me hJ hv hu).1
  generalize hy1 : mr_me J 36 S.2.2.1 (rt t) = y1 at *
  generalize hy2 : mr_me J 36 S.2.2.1 (rt u) = y2 at *
  have m1 := mw_n gM (by omega) w1
  have m2 := mw_n gM (by omega) w2
  unfold TS at hQ1 hQ0
  have no : ¬ TS S M t u → mj_rn X (mj_hd []) (mj_call X mj_P (mj_bi X) d) mb_149 31 [none, none, none, none, none, none, none] [] (sh59, J, Lg, Rf, nc, ns) Q := by
    intro hh
    refine mj_blk rfl ?_
    simp +decide only [mjs_0, mjs_1, mjs_2, mjs_3, mjs_ble, true_and, Bool.false_eq_true, if_false, if_true, Nat.reduceAdd, Nat.reduceSub, Nat.reduceLeDiff, false_implies, true_implies, not_false_eq_true, not_true_eq_false, and_true]
    exact hQ0 hh
  by_cases hmm : gm S t / 65536 = 2 ∧ gm S u / 65536 = 2
  · obtain ⟨a, a', za, ba, ya, qa⟩ : ∃ a b, gm S t = 131072 + a ∧ b < 30001 ∧ y1 = nI (100000 + b) ∧ mq M (J 48) (J 49) (J 50) (J 51) a b := by
      rcases m1 with ⟨z, y⟩ | ⟨p, p1, p2, z, y⟩ | hh | ⟨c, c1, z, y⟩ | ⟨m, m1, z, y⟩
      · omega
      · omega
      · exact hh
      · omega
      · omega
    obtain ⟨b, b', zb, bb, yb, qb⟩ : ∃ a b, gm S u = 131072 + a ∧ b < 30001 ∧ y2 = nI (100000 + b) ∧ mq M (J 48) (J 49) (J 50) (J 51) a b := by
      rcases m2 with ⟨z, y⟩ | ⟨p, p1, p2, z, y⟩ | hh | ⟨c, c1, z, y⟩ | ⟨m, m1, z, y⟩
      · omega
      · omega
      · exact hh
      · omega
      · omega
    have la := qa.1
    have lb := qb.1
    have ea : gm S t % 65536 = a := by omega
    have eb : gm S u % 65536 = b := by omega
    have rA := mcR_of (J := J) gM qa ba
    have rB := mcR_of (J := J) gM qb bb
    rw [if_pos hmm, ea, eb] at hQ1 hQ0
    subst ya yb
    refine mj_enter (z := (7, [], mb_149)) (by decide) rfl rfl ?_
    refine mj_blk rfl ?_
    simp +decide only [mjs_0, mjs_1, mjs_2, mjs_3, mjs_ble, true_and, Bool.false_eq_true, if_false, if_true, Nat.reduceAdd, Nat.reduceSub, Nat.reduceLeDiff, false_implies, true_implies, not_false_eq_true, not_true_eq_false, and_true]
    by_cases e : a' = b'
    · subst e
      refine ⟨fun q => absurd rfl q, fun _ => mj_blk rfl ?_⟩
      simp +decide only [mjs_0, mjs_1, mjs_2, mjs_3, mjs_ble, true_and, Bool.false_eq_true, if_false, if_true, Nat.reduceAdd, Nat.reduceSub, Nat.reduceLeDiff, false_implies, true_implies, not_false_eq_true, not_true_eq_false, and_true]
      exact hQ1 (MS_same rA rB)
    · have ne : ¬ nI (100000 + a') = nI (100000 + b') := fun q => e (by have := (nI_eq (by omega) (by omega)).mp q; omega)
      refine ⟨fun _ => mj_blk rfl ?_, fun q => absurd ne q⟩
      simp +decide only [mjs_0, mjs_1, mjs_2, mjs_3, mjs_ble, true_and, Bool.false_eq_true, if_false, if_true, Nat.reduceAdd, Nat.reduceSub, Nat.reduceLeDiff, false_implies, true_implies, not_false_eq_true, not_true_eq_false, and_true]
      refine ⟨fun q => absurd q (nI_nlt (a := 100000 + a') (b := 100000) (by omega) (by omega)), fun _ => mj_blk rfl ?_⟩
      simp +decide only [mjs_0, mjs_1, mjs_2, mjs_3, mjs_ble, true_and, Bool.false_eq_true, if_false, if_true, Nat.reduceAdd, Nat.reduceSub, Nat.reduceLeDiff, false_implies, true_implies, not_false_eq_true, not_true_eq_false, and_true]
      refine ⟨fun q => absurd q (nI_ge (a := 100000 + a') (b := 2000000) (by omega) (by decide)), fun _ => mj_blk rfl ?_⟩
      simp +decide only [mjs_0, mjs_1, mjs_2, mjs_3, mjs_ble, true_and, Bool.false_eq_true, if_false, if_true, Nat.reduceAdd, Nat.reduceSub, Nat.reduceLeDiff, false_implies, true_implies, not_false_eq_true, not_true_eq_false, and_true]
      refine ⟨fun q => absurd q (nI_nlt (a := 100000 + b') (b := 100000) (by omega) (by omega)), fun _ => mj_blk rfl ?_⟩
      simp +decide only [mjs_0, mjs_1, mjs_2, mjs_3, mjs_ble, true_and, Bool.false_eq_true, if_false, if_true, Nat.reduceAdd, Nat.reduceSub, Nat.reduceLeDiff, false_implies, true_implies, not_false_eq_true, not_true_eq_false, and_true]
      refine ⟨fun _ => mj_nv (rq_149m hM' hv hJ rA rB hQ1 hQ0), fun q => absurd (nI_lt (a := 100000 + b') (b := 2000000) (by omega) (by decide)) q⟩
  · obtain ⟨f1, g1, l1, c1⟩ := mw_phi gM lt w1
    obtain ⟨f2, g2, l2, c2⟩ := mw_phi gM lu w2
    have e12 : y1 = y2 ↔ f1 = f2 := by
      rw [g1, g2]
      exact nI_eq l1 l2
    have eqv : y1 = y2 ↔ gm S t = gm S u := by
      rw [e12]
      rcases c1 with ⟨a1, a2⟩ | ⟨p, a1, a2, a3, a4⟩ | ⟨a1, a2, a3, a4⟩ | ⟨a1, a2, a3⟩ | ⟨a1, a2⟩ <;> rcases c2 with ⟨b1, b2⟩ | ⟨p', b1, b2, b3, b4⟩ | ⟨b1, b2, b3, b4⟩ | ⟨b1, b2, b3⟩ | ⟨b1, b2⟩
      case inr.inl.inr.inl =>
        have i1 : rp p = rp p' → p = p' := rp_inj
        have i2 : p = p' → rp p = rp p' := fun e => by rw [e]
        omega
      all_goals omega
    have rng : ∀ {z f : Nat}, (z = 0 ∧ f = 0 ∨ (∃ p, p < 36 ∧ z = 65537 + p ∧ f = 1000 + rp p ∧ rp p < 36) ∨ (131072 ≤ z ∧ z < 196608 ∧ 100000 ≤ f ∧ f < 2000000) ∨ (196608 ≤ z ∧ z < 199936 ∧ f = 1803392 + z) ∨ (262144 ≤ z ∧ f = 2737856 + z)) → (100000 ≤ f ∧ f < 2000000 ↔ z / 65536 = 2) := fun {z f} hh => by
      rcases hh with ⟨a1, a2⟩ | ⟨p, a1, a2, a3, a4⟩ | ⟨a1, a2, a3, a4⟩ | ⟨a1, a2, a3⟩ | ⟨a1, a2⟩ <;> omega
    have r1 := rng c1
    have r2 := rng c2
    have hts : TS S M t u ↔ gm S t = gm S u := by
      unfold TS
      rw [if_neg hmm]
    rw [if_neg hmm] at hQ1
    refine mj_enter (z := (7, [], mb_149)) (by decide) rfl rfl ?_
    refine mj_blk rfl ?_
    simp +decide only [mjs_0, mjs_1, mjs_2, mjs_3, mjs_ble, true_and, Bool.false_eq_true, if_false, if_true, Nat.reduceAdd, Nat.reduceSub, Nat.reduceLeDiff, false_implies, true_implies, not_false_eq_true, not_true_eq_false, and_true]
    by_cases e : y1 = y2
    · refine ⟨fun q => absurd e q, fun _ => mj_blk rfl ?_⟩
      simp +decide only [mjs_0, mjs_1, mjs_2, mjs_3, mjs_ble, true_and, Bool.false_eq_true, if_false, if_true, Nat.reduceAdd, Nat.reduceSub, Nat.reduceLeDiff, false_implies, true_implies, not_false_eq_true, not_true_eq_false, and_true]
      exact hQ1 (eqv.mp e)
    · have hno : ¬ TS S M t u := fun hh => e (eqv.mpr (hts.mp hh))
      refine ⟨fun _ => mj_blk rfl ?_, fun q => absurd e q⟩
      simp +decide only [mjs_0, mjs_1, mjs_2, mjs_3, mjs_ble, true_and, Bool.false_eq_true, if_false, if_true, Nat.reduceAdd, Nat.reduceSub, Nat.reduceLeDiff, false_implies, true_implies, not_false_eq_true, not_true_eq_false, and_true, g1, g2]
      by_cases x1 : f1 < 100000
      · exact ⟨fun _ => mj_nv (no hno), fun q => absurd (nI_lt (a := f1) (b := 100000) x1 (by decide)) q⟩
      · refine ⟨fun q => absurd q (nI_nlt (a := f1) (b := 100000) (by omega) l1), fun _ => mj_blk rfl ?_⟩
        simp +decide only [mjs_0, mjs_1, mjs_2, mjs_3, mjs_ble, true_and, Bool.false_eq_true, if_false, if_true, Nat.reduceAdd, Nat.reduceSub, Nat.reduceLeDiff, false_implies, true_implies, not_false_eq_true, not_true_eq_false, and_true]
        by_cases x2 : 2000000 ≤ f1
        · exact ⟨fun _ => mj_nv (no hno), fun q => absurd (nI_le (a := 2000000) (b := f1) x2 l1) q⟩
        · refine ⟨fun q => absurd q (nI_ge (a := f1) (b := 2000000) (by omega) (by decide)), fun _ => mj_blk rfl ?_⟩
          simp +decide only [mjs_0, mjs_1, mjs_2, mjs_3, mjs_ble, true_and, Bool.false_eq_true, if_false, if_true, Nat.reduceAdd, Nat.reduceSub, Nat.reduceLeDiff, false_implies, true_implies, not_false_eq_true, not_true_eq_false, and_true]
          by_cases x3 : f2 < 100000
          · exact ⟨fun _ => mj_nv (no hno), fun q => absurd (nI_lt (a := f2) (b := 100000) x3 (by decide)) q⟩
          · refine ⟨fun q => absurd q (nI_nlt (a := f2) (b := 100000) (by omega) l2), fun _ => mj_blk rfl ?_⟩
            simp +decide only [mjs_0, mjs_1, mjs_2, mjs_3, mjs_ble, true_and, Bool.false_eq_true, if_false, if_true, Nat.reduceAdd, Nat.reduceSub, Nat.reduceLeDiff, false_implies, true_implies, not_false_eq_true, not_true_eq_false, and_true]
            by_cases x4 : 2000000 ≤ f2
            · exact ⟨fun q => absurd q (nI_nlt (a := f2) (b := 2000000) x4 l2), fun _ => mj_nv (no hno)⟩
            · exact absurd ⟨r1.mp (by omega), r2.mp (by omega)⟩ hmm
end MJSM
