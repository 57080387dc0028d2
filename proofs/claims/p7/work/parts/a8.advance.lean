/-! ADVANCE, MULTIPLY, DIVIDE as a whole, in both -/
section MJAD
variable {X : mj_X} {d nc ns : Nat} {Q : mj_Q} {I I' J J' H : Nat → Nat → Int32} {Lg : Nat → Nat → Int64} {Rf : Nat → Nat → Option Nat} {fb fb' : Nat → Nat → Int32} {vb : Nat → Int32} {K K' K2 : Nat × Nat × Nat} {P P' P2 : List Nat} {E : sgE} {N N' N2 : sgN} {S S' S2 : sgS} {M : sgM} {C C' C2 : sgC} {O : sgO} {L L' L2 : sgL} {t n kc kr gl s' code k : Nat}
theorem p_reckon (hR : mj_Rt mp_R Rf) (hM' : mj_Rt mm_R Rf) (hX : XD X Rf vb kc kr n) (hN : NU X Rf vb kc kr n) {n' kc' kr' : Nat} (hN' : NU X Rf vb kc' kr' n') (h12 : 12 ≤ kr) {D : Nat} (hD : kc + 8 ≤ D) (hD' : kc' + 8 ≤ D) (hn : K.2.2 + n = 40) (hn' : K.2.2 + 1 + n' = 40) (hr' : nc + 1 ≤ X.2.2.1 ∧ ns + 6 ≤ X.2.2.2) (hv : gv (K, P, E, N, S, M, C, O, L)) (hw : gw K S) (hs : S.2.2.2 + 1 ≤ K.1) (hg : gl = 0 ∨ gl = 1) (hc : code = 33 ∨ code = 34 ∨ code = 35) (hp : P.length ≤ 10000) (h : RC fb vb (K, P, E, N, S, M, C, O, L) I)
    (hQ1 : AQ1 X Rf vb (kr + 6) 292 [some (.ref 36), some (.int (nI (code - 2))), some (.int (nI gl)), none, none, none] K P E N S M C O L Lg nc ns Q)
    (hQ3 : AQ3 X Rf vb (kr + 6) 292 [some (.ref 36), some (.int (nI (code - 2))), some (.int (nI gl)), none, none, none] (K, P, E, N, S, M, C, O, L) Lg nc ns Q) :
    mj_rn X (mj_hd []) (mj_call X mj_P (mj_bi X) D) mb_64 264 [some (.ref 34), none, some (.int (nI gl)), some (.int (nI code)), none] [] (sh59, I, Lg, Rf, nc, ns) Q := by
  have hr := mc_rf hR
  have hm := mm_rf hM'
  obtain ⟨d, rfl⟩ : ∃ d, D = d + 8 := ⟨D - 8, by omega⟩
  have qF : ∀ fb g' I', RCf fb vb g' I' → RMf X Rf mb_175 (kr + 5) 0 (w0 (nI (code - 2)) gl) [] (K, P, E, N, S, M, C, O, L) na none g' → Q (.inr 500) (sh59, I', Lg, Rf, nc + 1, ns + 6) := by
    intro fb g' I' a1 a2
    refine hQ3 fb g' I' a1 ?_
    have a3 := ry_in (M := 175) (z := 12) (as := [.ref 36, .int (nI (code - 2)), .int (nI gl)]) (by decide) rfl rfl rfl a2
    intro H Lg d nc ns J Q hJ hA hq
    obtain ⟨D, hD, hDk⟩ : ∃ D, d + (kr + 6) = D + 6 ∧ kr ≤ D := ⟨d + kr, by omega, by omega⟩
    rw [hD]
    try rw [hD] at hq
    refine mj_blk rfl ?_
    simp +decide only [mjs_0, mjs_1, mjs_2, mjs_3, mjs_ble, true_and, Bool.false_eq_true, if_false, if_true, Nat.reduceAdd, Nat.reduceSub, Nat.reduceLeDiff, false_implies, true_implies, not_false_eq_true, not_true_eq_false, and_true, mm_sh, hm, mjs_up_at, mjs_up_c, mjs_up_f]
    refine ry_at a3 (by omega) hJ trivial (fun J1 c1 => ?_)
    simp +decide only [mjs_0, mjs_1, mjs_2, mjs_3, mjs_ble, true_and, Bool.false_eq_true, if_false, if_true, Nat.reduceAdd, Nat.reduceSub, Nat.reduceLeDiff, false_implies, true_implies, not_false_eq_true, not_true_eq_false, and_true, mm_sh, hm, mjs_up_at, mjs_up_c, mjs_up_f]
    refine mj_blk rfl ?_
    simp +decide only [mjs_0, mjs_1, mjs_2, mjs_3, mjs_ble, true_and, Bool.false_eq_true, if_false, if_true, Nat.reduceAdd, Nat.reduceSub, Nat.reduceLeDiff, false_implies, true_implies, not_false_eq_true, not_true_eq_false, and_true, mm_sh, hm, mjs_up_at, mjs_up_c, mjs_up_f]
    exact hq J1 c1
  have qE : ∀ g', RMe X Rf mb_175 (kr + 5) 0 (w0 (nI (code - 2)) gl) [] (K, P, E, N, S, M, C, O, L) na none g' na → RMe X Rf mb_168 (kr + 6) 292 [some (.ref 36), some (.int (nI (code - 2))), some (.int (nI gl)), none, none, none] [] (K, P, E, N, S, M, C, O, L) na none g' na := by
    intro g' a2
    have a3 := rx_in (M := 175) (z := 12) (as := [.ref 36, .int (nI (code - 2)), .int (nI gl)]) (by decide) rfl rfl rfl a2
    intro H Lg d nc ns J Q hJ hA hq
    obtain ⟨D, hD, hDk⟩ : ∃ D, d + (kr + 6) = D + 6 ∧ kr ≤ D := ⟨d + kr, by omega, by omega⟩
    rw [hD]
    try rw [hD] at hq
    refine mj_blk rfl ?_
    simp +decide only [mjs_0, mjs_1, mjs_2, mjs_3, mjs_ble, true_and, Bool.false_eq_true, if_false, if_true, Nat.reduceAdd, Nat.reduceSub, Nat.reduceLeDiff, false_implies, true_implies, not_false_eq_true, not_true_eq_false, and_true, mm_sh, hm, mjs_up_at, mjs_up_c, mjs_up_f]
    refine rx_at a3 (by omega) hJ trivial (fun H1 J1 c1 c2 _ => ?_)
    simp +decide only [mjs_0, mjs_1, mjs_2, mjs_3, mjs_ble, true_and, Bool.false_eq_true, if_false, if_true, Nat.reduceAdd, Nat.reduceSub, Nat.reduceLeDiff, false_implies, true_implies, not_false_eq_true, not_true_eq_false, and_true, mm_sh, hm, mjs_up_at, mjs_up_c, mjs_up_f]
    refine mj_blk rfl ?_
    simp +decide only [mjs_0, mjs_1, mjs_2, mjs_3, mjs_ble, true_and, Bool.false_eq_true, if_false, if_true, Nat.reduceAdd, Nat.reduceSub, Nat.reduceLeDiff, false_implies, true_implies, not_false_eq_true, not_true_eq_false, and_true, mm_sh, hm, mjs_up_at, mjs_up_c, mjs_up_f]
    exact hq H1 J1 c1 c2 trivial
  refine mj_blk rfl ?_
  simp +decide only [mjs_0, mjs_1, mjs_2, mjs_3, mjs_ble, true_and, Bool.false_eq_true, if_false, if_true, Nat.reduceAdd, Nat.reduceSub, Nat.reduceLeDiff, false_implies, true_implies, not_false_eq_true, not_true_eq_false, and_true, mc_sh, hr, mjs_up_at, mjs_up_c, mjs_up_f]
  refine mj_enter (z := (1, [], mb_71)) (by decide) rfl rfl ?_
  refine mj_blk rfl ?_
  simp +decide only [mjs_0, mjs_1, mjs_2, mjs_3, mjs_ble, true_and, Bool.false_eq_true, if_false, if_true, Nat.reduceAdd, Nat.reduceSub, Nat.reduceLeDiff, false_implies, true_implies, not_false_eq_true, not_true_eq_false, and_true, mc_sh, hr, mjs_up_at, mjs_up_c, mjs_up_f]
  refine p_23 hR hM' hX (by omega) hn hr' hv hw hp h (fun fb1 K1 P1 N1 S1 C1 L1 I1 t a1 a2 a3 a4 a5 a6 a7 a8 a9 => ?_) (fun g' I' a1 a2 => ?_)
  · have hgw1 := gw_xs hw a4
    have hK1 := a4.2.1.2
    have hgp := gp_le a1 a6
    simp +decide only [mjs_0, mjs_1, mjs_2, mjs_3, mjs_ble, true_and, Bool.false_eq_true, if_false, if_true, Nat.reduceAdd, Nat.reduceSub, Nat.reduceLeDiff, false_implies, true_implies, not_false_eq_true, not_true_eq_false, and_true, mc_sh, hr, mjs_up_at, mjs_up_c, mjs_up_f]
    refine cq_97 hR a2 a1 a6 ?_
    simp +decide only [mjs_0, mjs_1, mjs_2, mjs_3, mjs_ble, true_and, Bool.false_eq_true, if_false, if_true, Nat.reduceAdd, Nat.reduceSub, Nat.reduceLeDiff, false_implies, true_implies, not_false_eq_true, not_true_eq_false, and_true, mc_sh, hr, mjs_up_at, mjs_up_c, mjs_up_f]
    by_cases e31 : gp S1 t = 31
    · have r28 : RM X Rf mb_175 (kr + 5) 0 (w0 (nI (code - 2)) gl) [] (K, P, E, N, S, M, C, O, L) na 28 (w0 (nI (code - 2)) gl) [] (K1, P1, E, N1, S1, M, C1, O, L1) na := by
        intro H Lg d nc ns J Q hJ hA hq
        obtain ⟨D, hD, hDk⟩ : ∃ D, d + (kr + 5) = D + 5 ∧ kr ≤ D := ⟨d + kr, by omega, by omega⟩
        rw [hD]
        try rw [hD] at hq
        unfold w0 at hq ⊢
        refine mj_blk rfl ?_
        simp +decide only [mjs_0, mjs_1, mjs_2, mjs_3, mjs_ble, true_and, Bool.false_eq_true, if_false, if_true, Nat.reduceAdd, Nat.reduceSub, Nat.reduceLeDiff, false_implies, true_implies, not_false_eq_true, not_true_eq_false, and_true, mm_sh, hm, mjs_up_at, mjs_up_c, mjs_up_f]
        refine rx_at a9 (by omega) hJ trivial (fun H1 J1 c1 c2 _ => ?_)
        simp +decide only [mjs_0, mjs_1, mjs_2, mjs_3, mjs_ble, true_and, Bool.false_eq_true, if_false, if_true, Nat.reduceAdd, Nat.reduceSub, Nat.reduceLeDiff, false_implies, true_implies, not_false_eq_true, not_true_eq_false, and_true, mm_sh, hm, mjs_up_at, mjs_up_c, mjs_up_f, (rr_d c2).1.2.2.2]
        refine mj_blk rfl ?_
        simp +decide only [mjs_0, mjs_1, mjs_2, mjs_3, mjs_ble, true_and, Bool.false_eq_true, if_false, if_true, Nat.reduceAdd, Nat.reduceSub, Nat.reduceLeDiff, false_implies, true_implies, not_false_eq_true, not_true_eq_false, and_true, mm_sh, hm, mjs_up_at, mjs_up_c, mjs_up_f]
        refine rq_126 (p := 31) (k := 29) hM' c2 a1 a6 (by decide) (by decide) (by decide) (fun e => ?_) (fun e => absurd e31 e)
        simp +decide only [mjs_0, mjs_1, mjs_2, mjs_3, mjs_ble, true_and, Bool.false_eq_true, if_false, if_true, Nat.reduceAdd, Nat.reduceSub, Nat.reduceLeDiff, false_implies, true_implies, not_false_eq_true, not_true_eq_false, and_true, mm_sh, hm, mjs_up_at, mjs_up_c, mjs_up_f]
        exact mj_nv (hq H1 J1 c1 c2 trivial)
      refine ⟨fun _ => mj_blk rfl ?_, fun q => absurd (by rw [e31]; rfl) q⟩
      simp +decide only [mjs_0, mjs_1, mjs_2, mjs_3, mjs_ble, true_and, Bool.false_eq_true, if_false, if_true, Nat.reduceAdd, Nat.reduceSub, Nat.reduceLeDiff, false_implies, true_implies, not_false_eq_true, not_true_eq_false, and_true, mc_sh, hr, mjs_up_at, mjs_up_c, mjs_up_f]
      refine p_44 (most := 255) hR hM' hN (by omega) (by decide) (by rw [hK1]; exact hn) hr' a1 hgw1 (by omega) a2 (fun fb2 K2 P2 N2 S2 C2 L2 I2 k b1 b2 b3 b4 b5 b6 => ?_) (fun g' I' b1 b2 => ?_)
      · have hx2 := xs_tr a4 b4
        have hgw2 := gw_xs hw hx2
        have hK2 := hx2.2.1.2
        simp +decide only [mjs_0, mjs_1, mjs_2, mjs_3, mjs_ble, true_and, Bool.false_eq_true, if_false, if_true, Nat.reduceAdd, Nat.reduceSub, Nat.reduceLeDiff, false_implies, true_implies, not_false_eq_true, not_true_eq_false, and_true, mc_sh, hr, mjs_up_at, mjs_up_c, mjs_up_f, show (0 : Int32) + nI k = nI k by rw [show (0 : Int32) = nI 0 from rfl, nI_add, Nat.zero_add]]
        refine p_72 (k := k) (gl := gl) (p := nI (code - 2)) (g0 := (K, P, E, N, S, M, C, O, L)) (lv0 := w0 (nI (code - 2)) gl) hR hM' hX h12 (by omega) (by rw [hK2]; exact hn) (by rw [hK2]; omega) hr' b1 hgw2 b3 b2 (fun g' x c1 => rm_tr r28 ?_) (fun g' c1 => rm_f r28 ?_) (fun fb3 K3 P3 N3 S3 C3 L3 I3 c1 c2 c3 c4 c5 => ?_) (fun fb3 K3 P3 N3 S3 C3 L3 I3 t3 c1 c2 c3 c4 c5 c6 => ?_) (fun g' I' c1 c2 => ?_)
        · intro H Lg d nc ns J Q hJ hA hq
          obtain ⟨D, hD, hDk⟩ : ∃ D, d + (kr + 5) = D + 5 ∧ kr ≤ D := ⟨d + kr, by omega, by omega⟩
          rw [hD]
          try rw [hD] at hq
          unfold w0
          unfold w5 at hq
          refine mj_blk rfl ?_
          simp +decide only [mjs_0, mjs_1, mjs_2, mjs_3, mjs_ble, true_and, Bool.false_eq_true, if_false, if_true, Nat.reduceAdd, Nat.reduceSub, Nat.reduceLeDiff, false_implies, true_implies, not_false_eq_true, not_true_eq_false, and_true, mm_sh, hm, mjs_up_at, mjs_up_c, mjs_up_f]
          refine rx_at b6 (by omega) hJ trivial (fun H1 J1 e1 e2 _ => ?_)
          simp +decide only [mjs_0, mjs_1, mjs_2, mjs_3, mjs_ble, true_and, Bool.false_eq_true, if_false, if_true, Nat.reduceAdd, Nat.reduceSub, Nat.reduceLeDiff, false_implies, true_implies, not_false_eq_true, not_true_eq_false, and_true, mm_sh, hm, mjs_up_at, mjs_up_c, mjs_up_f]
          refine rx_at c1 (by omega) e2 trivial (fun H2 J2 e3 e4 _ => ?_)
          simp +decide only [mjs_0, mjs_1, mjs_2, mjs_3, mjs_ble, true_and, Bool.false_eq_true, if_false, if_true, Nat.reduceAdd, Nat.reduceSub, Nat.reduceLeDiff, false_implies, true_implies, not_false_eq_true, not_true_eq_false, and_true, mm_sh, hm, mjs_up_at, mjs_up_c, mjs_up_f]
          exact mj_nv (hq H2 J2 (hx_tr e1 e3) e4 trivial)
        · intro H Lg d nc ns J Q hJ hA hq
          obtain ⟨D, hD, hDk⟩ : ∃ D, d + (kr + 5) = D + 5 ∧ kr ≤ D := ⟨d + kr, by omega, by omega⟩
          rw [hD]
          try rw [hD] at hq
          unfold w0
          refine mj_blk rfl ?_
          simp +decide only [mjs_0, mjs_1, mjs_2, mjs_3, mjs_ble, true_and, Bool.false_eq_true, if_false, if_true, Nat.reduceAdd, Nat.reduceSub, Nat.reduceLeDiff, false_implies, true_implies, not_false_eq_true, not_true_eq_false, and_true, mm_sh, hm, mjs_up_at, mjs_up_c, mjs_up_f]
          refine rx_at b6 (by omega) hJ trivial (fun H1 J1 e1 e2 _ => ?_)
          simp +decide only [mjs_0, mjs_1, mjs_2, mjs_3, mjs_ble, true_and, Bool.false_eq_true, if_false, if_true, Nat.reduceAdd, Nat.reduceSub, Nat.reduceLeDiff, false_implies, true_implies, not_false_eq_true, not_true_eq_false, and_true, mm_sh, hm, mjs_up_at, mjs_up_c, mjs_up_f]
          refine ry_at c1 (by omega) e2 trivial (fun J2 e4 => ?_)
          simp +decide only [mjs_0, mjs_1, mjs_2, mjs_3, mjs_ble, true_and, Bool.false_eq_true, if_false, if_true, Nat.reduceAdd, Nat.reduceSub, Nat.reduceLeDiff, false_implies, true_implies, not_false_eq_true, not_true_eq_false, and_true, mm_sh, hm, mjs_up_at, mjs_up_c, mjs_up_f]
          exact mj_nv (f_175 (k := k) (p := nI (code - 2)) hM' e4 (hq J2 (rd_hx e4 e1)))
        · -- the number follows
          have hx3 := xs_tr hx2 c4
          have hgw3 := gw_xs hw hx3
          have hK3 := hx3.2.1.2
          have i10 : I3 10 k = S3.1 S3.2.2.1 k := rc_10 (rc_d c2).2.2.2.2.1 (by omega)
          have ek : (nI k).toNatClampNeg = k := nI_clamp (by omega)
          simp +decide only [mjs_0, mjs_1, mjs_2, mjs_3, mjs_ble, true_and, Bool.false_eq_true, if_false, if_true, Nat.reduceAdd, Nat.reduceSub, Nat.reduceLeDiff, false_implies, true_implies, not_false_eq_true, not_true_eq_false, and_true, mc_sh, hr, mjs_up_at, mjs_up_c, mjs_up_f, ek, i10]
          refine ⟨nI_in (by omega) (by decide), ?_⟩
          refine hN fb3 K3 P3 E N3 S3 M C3 O L3 nc ns Lg I3 _ _ (by omega) (by rw [hK3]; exact hn) hr' c1 hgw3 c3 c2 (fun fb4 K4 P4 N4 S4 C4 L4 I4 x d1 d2 d3 d4 d5 d6 => ?_) (fun g' I' d1 d2 => ?_)
          · have hx4 := xs_tr hx3 d4
            have k54 := (rc_d d2).1.2.2.2
            have hs4 := sx_s hx4 hs
            have hlev : S4.2.2.1 = S3.2.2.1 := d4.2.2.2.2.1.1
            have heq : S4.1 S4.2.2.1 k = S3.1 S3.2.2.1 k := by
              rw [hlev]
              exact d4.2.2.2.2.1.2.2.2.1 S3.2.2.1 k (Nat.le_refl _) (by omega)
            have r126 : RM X Rf mb_175 (kr + 5) 0 (w0 (nI (code - 2)) gl) [] (K, P, E, N, S, M, C, O, L) na 126 [some (.ref 36), some (.int (nI (code - 2))), some (.int (nI gl)), none, some (.int (nI k)), none, some (.long x.toInt64), none, none, none, none, none] [] (K4, P4, E, N4, S4, M, C4, O, L4) na := by
              refine rm_tr c5 ?_
              intro H Lg d nc ns J Q hJ hA hq
              obtain ⟨D, hD, hDk⟩ : ∃ D, d + (kr + 5) = D + 5 ∧ kr ≤ D := ⟨d + kr, by omega, by omega⟩
              rw [hD]
              try rw [hD] at hq
              unfold w1
              refine mj_blk rfl ?_
              simp +decide only [mjs_0, mjs_1, mjs_2, mjs_3, mjs_ble, true_and, Bool.false_eq_true, if_false, if_true, Nat.reduceAdd, Nat.reduceSub, Nat.reduceLeDiff, false_implies, true_implies, not_false_eq_true, not_true_eq_false, and_true, mm_sh, hm, mjs_up_at, mjs_up_c, mjs_up_f]
              refine rx_at d6 (by omega) hJ trivial (fun H1 J1 e1 e2 _ => ?_)
              simp +decide only [mjs_0, mjs_1, mjs_2, mjs_3, mjs_ble, true_and, Bool.false_eq_true, if_false, if_true, Nat.reduceAdd, Nat.reduceSub, Nat.reduceLeDiff, false_implies, true_implies, not_false_eq_true, not_true_eq_false, and_true, mm_sh, hm, mjs_up_at, mjs_up_c, mjs_up_f, (rr_d e2).1.2.2.2]
              exact mj_nv (hq H1 J1 e1 e2 trivial)
            simp +decide only [mjs_0, mjs_1, mjs_2, mjs_3, mjs_ble, true_and, Bool.false_eq_true, if_false, if_true, Nat.reduceAdd, Nat.reduceSub, Nat.reduceLeDiff, false_implies, true_implies, not_false_eq_true, not_true_eq_false, and_true, mc_sh, hr, mjs_up_at, mjs_up_c, mjs_up_f]
            refine cq_74 hR hc hr' d1 d2 (fun hok => ?_) (fun hno I5 f1 => ?_)
            · simp +decide only [mjs_0, mjs_1, mjs_2, mjs_3, mjs_ble, true_and, Bool.false_eq_true, if_false, if_true, Nat.reduceAdd, Nat.reduceSub, Nat.reduceLeDiff, false_implies, true_implies, not_false_eq_true, not_true_eq_false, and_true, mc_sh, hr, mjs_up_at, mjs_up_c, mjs_up_f]
              refine cq_98 hR d2 (by omega) (show k < 1804 by omega) hg (fun I5 s' f1 f2 => ?_)
              obtain ⟨q1, q2⟩ := aq_set (x := k) (v := (rv code (S3.1 S3.2.2.1 k).toInt64 x.toInt64).toInt32) (gl := gl) hx4 hw hs f1 (fun _ => rv_min hok.2.1 hok.2.2)
              simp +decide only [mjs_0, mjs_1, mjs_2, mjs_3, mjs_ble, true_and, Bool.false_eq_true, if_false, if_true, Nat.reduceAdd, Nat.reduceSub, Nat.reduceLeDiff, false_implies, true_implies, not_false_eq_true, not_true_eq_false, and_true, mc_sh, hr, mjs_up_at, mjs_up_c, mjs_up_f]
              refine mj_blk rfl ?_
              simp +decide only [mjs_0, mjs_1, mjs_2, mjs_3, mjs_ble, true_and, Bool.false_eq_true, if_false, if_true, Nat.reduceAdd, Nat.reduceSub, Nat.reduceLeDiff, false_implies, true_implies, not_false_eq_true, not_true_eq_false, and_true, mc_sh, hr, mjs_up_at, mjs_up_c, mjs_up_f]
              refine hQ1 fb4 K4 P4 N4 _ C4 L4 I5 (gv_set d1 (fun _ => Or.inl (by omega)) (fun q => absurd q (by omega))) f2 d3 hx4.2.1 q1 q2 (qE _ (rm_e r126 ?_))
              intro H Lg d nc ns J Q hJ hA hq
              obtain ⟨D, hD, hDk⟩ : ∃ D, d + (kr + 5) = D + 5 ∧ kr ≤ D := ⟨d + kr, by omega, by omega⟩
              rw [hD]
              try rw [hD] at hq
              rw [← heq] at hok hq
              exact rq_175 hM' hJ (by omega) hc hg (fun _ J4 e7 => hq H J4 hx_rf (e7 s') trivial) (fun hno => absurd hok hno)
            · simp +decide only [mjs_0, mjs_1, mjs_2, mjs_3, mjs_ble, true_and, Bool.false_eq_true, if_false, if_true, Nat.reduceAdd, Nat.reduceSub, Nat.reduceLeDiff, false_implies, true_implies, not_false_eq_true, not_true_eq_false, and_true]
              refine qF fb4 _ I5 f1 (rm_f r126 ?_)
              intro H Lg d nc ns J Q hJ hA hq
              obtain ⟨D, hD, hDk⟩ : ∃ D, d + (kr + 5) = D + 5 ∧ kr ≤ D := ⟨d + kr, by omega, by omega⟩
              rw [hD]
              try rw [hD] at hq
              rw [← heq] at hno
              exact rq_175 hM' hJ (by omega) hc hg (fun hok => absurd hok hno) (fun _ J4 e7 => hq J4 e7)
          · simp +decide only [mjs_0, mjs_1, mjs_2, mjs_3, mjs_ble, true_and, Bool.false_eq_true, if_false, if_true, Nat.reduceAdd, Nat.reduceSub, Nat.reduceLeDiff, false_implies, true_implies, not_false_eq_true, not_true_eq_false, and_true]
            refine qF fb3 g' I' d1 (rm_f c5 ?_)
            intro H Lg d nc ns J Q hJ hA hq
            obtain ⟨D, hD, hDk⟩ : ∃ D, d + (kr + 5) = D + 5 ∧ kr ≤ D := ⟨d + kr, by omega, by omega⟩
            rw [hD]
            try rw [hD] at hq
            unfold w1
            refine mj_blk rfl ?_
            simp +decide only [mjs_0, mjs_1, mjs_2, mjs_3, mjs_ble, true_and, Bool.false_eq_true, if_false, if_true, Nat.reduceAdd, Nat.reduceSub, Nat.reduceLeDiff, false_implies, true_implies, not_false_eq_true, not_true_eq_false, and_true, mm_sh, hm, mjs_up_at, mjs_up_c, mjs_up_f]
            refine ry_at d2 (by omega) hJ trivial (fun J1 e1 => ?_)
            simp +decide only [mjs_0, mjs_1, mjs_2, mjs_3, mjs_ble, true_and, Bool.false_eq_true, if_false, if_true, Nat.reduceAdd, Nat.reduceSub, Nat.reduceLeDiff, false_implies, true_implies, not_false_eq_true, not_true_eq_false, and_true, mm_sh, hm, mjs_up_at, mjs_up_c, mjs_up_f]
            refine ⟨fun q => absurd q (rd_nle e1), fun _ => mj_blk rfl ?_⟩
            simp +decide only [mjs_0, mjs_1, mjs_2, mjs_3, mjs_ble, true_and, Bool.false_eq_true, if_false, if_true, Nat.reduceAdd, Nat.reduceSub, Nat.reduceLeDiff, false_implies, true_implies, not_false_eq_true, not_true_eq_false, and_true, mm_sh, hm, mjs_up_at, mjs_up_c, mjs_up_f]
            exact hq J1 e1
        · -- b follows: no number
          have hx3 := xs_tr hx2 c5
          have hgw3 := gw_xs hw hx3
          have hK3 := hx3.2.1.2
          have i10 : I3 10 k = S3.1 S3.2.2.1 k := rc_10 (rc_d c2).2.2.2.2.1 (by omega)
          have ek : (nI k).toNatClampNeg = k := nI_clamp (by omega)
          simp +decide only [mjs_0, mjs_1, mjs_2, mjs_3, mjs_ble, true_and, Bool.false_eq_true, if_false, if_true, Nat.reduceAdd, Nat.reduceSub, Nat.reduceLeDiff, false_implies, true_implies, not_false_eq_true, not_true_eq_false, and_true, mc_sh, hr, mjs_up_at, mjs_up_c, mjs_up_f, ek, i10]
          refine ⟨nI_in (by omega) (by decide), ?_⟩
          refine p_38b hR hM' hN' (by omega) (by rw [hK3]; exact hn') hr' c1 hgw3 c3 c4 c2 (fun I4 d1 => ?_)
          simp +decide only [mjs_0, mjs_1, mjs_2, mjs_3, mjs_ble, true_and, Bool.false_eq_true, if_false, if_true, Nat.reduceAdd, Nat.reduceSub, Nat.reduceLeDiff, false_implies, true_implies, not_false_eq_true, not_true_eq_false, and_true]
          refine qF fb3 _ I4 d1 (rm_f c6 ?_)
          intro H Lg d nc ns J Q hJ hA hq
          obtain ⟨D, hD, hDk⟩ : ∃ D, d + (kr + 5) = D + 5 ∧ kr ≤ D := ⟨d + kr, by omega, by omega⟩
          rw [hD]
          try rw [hD] at hq
          unfold w1
          refine mj_blk rfl ?_
          simp +decide only [mjs_0, mjs_1, mjs_2, mjs_3, mjs_ble, true_and, Bool.false_eq_true, if_false, if_true, Nat.reduceAdd, Nat.reduceSub, Nat.reduceLeDiff, false_implies, true_implies, not_false_eq_true, not_true_eq_false, and_true, mm_sh, hm, mjs_up_at, mjs_up_c, mjs_up_f]
          refine ry_at (re_161b hM' c1 (by omega) c4 (by rw [hK3]; omega)) (by omega) hJ trivial (fun J1 e1 => ?_)
          simp +decide only [mjs_0, mjs_1, mjs_2, mjs_3, mjs_ble, true_and, Bool.false_eq_true, if_false, if_true, Nat.reduceAdd, Nat.reduceSub, Nat.reduceLeDiff, false_implies, true_implies, not_false_eq_true, not_true_eq_false, and_true, mm_sh, hm, mjs_up_at, mjs_up_c, mjs_up_f]
          refine ⟨fun q => absurd q (rd_nle e1), fun _ => mj_blk rfl ?_⟩
          simp +decide only [mjs_0, mjs_1, mjs_2, mjs_3, mjs_ble, true_and, Bool.false_eq_true, if_false, if_true, Nat.reduceAdd, Nat.reduceSub, Nat.reduceLeDiff, false_implies, true_implies, not_false_eq_true, not_true_eq_false, and_true, mm_sh, hm, mjs_up_at, mjs_up_c, mjs_up_f]
          exact hq J1 e1
        · simp +decide only [mjs_0, mjs_1, mjs_2, mjs_3, mjs_ble, true_and, Bool.false_eq_true, if_false, if_true, Nat.reduceAdd, Nat.reduceSub, Nat.reduceLeDiff, false_implies, true_implies, not_false_eq_true, not_true_eq_false, and_true]
          exact qF fb2 g' I' c1 c2
      · simp +decide only [mjs_0, mjs_1, mjs_2, mjs_3, mjs_ble, true_and, Bool.false_eq_true, if_false, if_true, Nat.reduceAdd, Nat.reduceSub, Nat.reduceLeDiff, false_implies, true_implies, not_false_eq_true, not_true_eq_false, and_true]
        refine qF fb1 g' I' b1 (rm_f r28 ?_)
        intro H Lg d nc ns J Q hJ hA hq
        obtain ⟨D, hD, hDk⟩ : ∃ D, d + (kr + 5) = D + 5 ∧ kr ≤ D := ⟨d + kr, by omega, by omega⟩
        rw [hD]
        try rw [hD] at hq
        unfold w0
        refine mj_blk rfl ?_
        simp +decide only [mjs_0, mjs_1, mjs_2, mjs_3, mjs_ble, true_and, Bool.false_eq_true, if_false, if_true, Nat.reduceAdd, Nat.reduceSub, Nat.reduceLeDiff, false_implies, true_implies, not_false_eq_true, not_true_eq_false, and_true, mm_sh, hm, mjs_up_at, mjs_up_c, mjs_up_f]
        refine ry_at b2 (by omega) hJ trivial (fun J1 e1 => ?_)
        simp +decide only [mjs_0, mjs_1, mjs_2, mjs_3, mjs_ble, true_and, Bool.false_eq_true, if_false, if_true, Nat.reduceAdd, Nat.reduceSub, Nat.reduceLeDiff, false_implies, true_implies, not_false_eq_true, not_true_eq_false, and_true, mm_sh, hm, mjs_up_at, mjs_up_c, mjs_up_f]
        refine f_129 s59_36 (rd_nle e1) ?_
        simp +decide only [mjs_0, mjs_1, mjs_2, mjs_3, mjs_ble, true_and, Bool.false_eq_true, if_false, if_true, Nat.reduceAdd, Nat.reduceSub, Nat.reduceLeDiff, false_implies, true_implies, not_false_eq_true, not_true_eq_false, and_true, mm_sh, hm, mjs_up_at, mjs_up_c, mjs_up_f]
        exact mj_nv (f_175 (k := 0) (p := nI (code - 2)) hM' e1 (hq J1 e1))
    · have n31 : ¬ nI (gp S1 t) = 31 := fun q => e31 ((nI_eq (b := 31) (by omega) (by decide)).mp q)
      refine ⟨fun q => absurd q n31, fun _ => mj_blk rfl ?_⟩
      simp +decide only [mjs_0, mjs_1, mjs_2, mjs_3, mjs_ble, true_and, Bool.false_eq_true, if_false, if_true, Nat.reduceAdd, Nat.reduceSub, Nat.reduceLeDiff, false_implies, true_implies, not_false_eq_true, not_true_eq_false, and_true, mc_sh, hr, mjs_up_at, mjs_up_c, mjs_up_f]
      refine c_80 s59_1 hr' ?_
      simp +decide only [mjs_0, mjs_1, mjs_2, mjs_3, mjs_ble, true_and, Bool.false_eq_true, if_false, if_true, Nat.reduceAdd, Nat.reduceSub, Nat.reduceLeDiff, false_implies, true_implies, not_false_eq_true, not_true_eq_false, and_true]
      refine qF fb1 _ _ (rc_f a1 a2) ?_
      intro H Lg d nc ns J Q hJ hA hq
      obtain ⟨D, hD, hDk⟩ : ∃ D, d + (kr + 5) = D + 5 ∧ kr ≤ D := ⟨d + kr, by omega, by omega⟩
      rw [hD]
      try rw [hD] at hq
      unfold w0
      refine mj_blk rfl ?_
      simp +decide only [mjs_0, mjs_1, mjs_2, mjs_3, mjs_ble, true_and, Bool.false_eq_true, if_false, if_true, Nat.reduceAdd, Nat.reduceSub, Nat.reduceLeDiff, false_implies, true_implies, not_false_eq_true, not_true_eq_false, and_true, mm_sh, hm, mjs_up_at, mjs_up_c, mjs_up_f]
      refine rx_at a9 (by omega) hJ trivial (fun H1 J1 c1 c2 _ => ?_)
      simp +decide only [mjs_0, mjs_1, mjs_2, mjs_3, mjs_ble, true_and, Bool.false_eq_true, if_false, if_true, Nat.reduceAdd, Nat.reduceSub, Nat.reduceLeDiff, false_implies, true_implies, not_false_eq_true, not_true_eq_false, and_true, mm_sh, hm, mjs_up_at, mjs_up_c, mjs_up_f, (rr_d c2).1.2.2.2]
      refine mj_blk rfl ?_
      simp +decide only [mjs_0, mjs_1, mjs_2, mjs_3, mjs_ble, true_and, Bool.false_eq_true, if_false, if_true, Nat.reduceAdd, Nat.reduceSub, Nat.reduceLeDiff, false_implies, true_implies, not_false_eq_true, not_true_eq_false, and_true, mm_sh, hm, mjs_up_at, mjs_up_c, mjs_up_f]
      refine rq_126 (p := 31) (k := 29) hM' c2 a1 a6 (by decide) (by decide) (by decide) (fun e => absurd e e31) (fun e => ?_)
      simp +decide only [mjs_0, mjs_1, mjs_2, mjs_3, mjs_ble, true_and, Bool.false_eq_true, if_false, if_true, Nat.reduceAdd, Nat.reduceSub, Nat.reduceLeDiff, false_implies, true_implies, not_false_eq_true, not_true_eq_false, and_true, mm_sh, hm, mjs_up_at, mjs_up_c, mjs_up_f]
      refine mj_blk rfl ?_
      simp +decide only [mjs_0, mjs_1, mjs_2, mjs_3, mjs_ble, true_and, Bool.false_eq_true, if_false, if_true, Nat.reduceAdd, Nat.reduceSub, Nat.reduceLeDiff, false_implies, true_implies, not_false_eq_true, not_true_eq_false, and_true, mm_sh, hm, mjs_up_at, mjs_up_c, mjs_up_f]
      refine c_106 s59_36 ?_
      rw [if_pos (rr_d c2).1.2.2.2]
      have hJ6 := rr_f (f := 6) (by decide) (by decide) c2
      simp +decide only [mjs_0, mjs_1, mjs_2, mjs_3, mjs_ble, true_and, Bool.false_eq_true, if_false, if_true, Nat.reduceAdd, Nat.reduceSub, Nat.reduceLeDiff, false_implies, true_implies, not_false_eq_true, not_true_eq_false, and_true, mm_sh, hm, mjs_up_at, mjs_up_c, mjs_up_f]
      exact mj_nv (f_175a (p := nI (code - 2)) hM' hJ6 (hq _ (rd_hx hJ6 c1)))
  · simp +decide only [mjs_0, mjs_1, mjs_2, mjs_3, mjs_ble, true_and, Bool.false_eq_true, if_false, if_true, Nat.reduceAdd, Nat.reduceSub, Nat.reduceLeDiff, false_implies, true_implies, not_false_eq_true, not_true_eq_false, and_true]
    refine qF fb g' I' a1 ?_
    intro H Lg d nc ns J Q hJ hA hq
    obtain ⟨D, hD, hDk⟩ : ∃ D, d + (kr + 5) = D + 5 ∧ kr ≤ D := ⟨d + kr, by omega, by omega⟩
    rw [hD]
    try rw [hD] at hq
    unfold w0
    refine mj_blk rfl ?_
    simp +decide only [mjs_0, mjs_1, mjs_2, mjs_3, mjs_ble, true_and, Bool.false_eq_true, if_false, if_true, Nat.reduceAdd, Nat.reduceSub, Nat.reduceLeDiff, false_implies, true_implies, not_false_eq_true, not_true_eq_false, and_true, mm_sh, hm, mjs_up_at, mjs_up_c, mjs_up_f]
    refine ry_at a2 (by omega) hJ trivial (fun J1 e1 => ?_)
    simp +decide only [mjs_0, mjs_1, mjs_2, mjs_3, mjs_ble, true_and, Bool.false_eq_true, if_false, if_true, Nat.reduceAdd, Nat.reduceSub, Nat.reduceLeDiff, false_implies, true_implies, not_false_eq_true, not_true_eq_false, and_true, mm_sh, hm, mjs_up_at, mjs_up_c, mjs_up_f]
    refine ⟨fun _ => mj_nv (f_175a (p := nI (code - 2)) hM' e1 (hq J1 e1)), fun q => absurd (rd_ne e1) q⟩
end MJAD
