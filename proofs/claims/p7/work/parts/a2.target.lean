/-! WHAT IS ASSIGNED TO, in both -/
section MJTA
variable {X : mj_X} {d nc ns : Nat} {Q : mj_Q} {I I' J J' H : Nat → Nat → Int32} {Lg : Nat → Nat → Int64} {Rf : Nat → Nat → Option Nat} {fb fb' : Nat → Nat → Int32} {vb : Nat → Int32} {K K' K'' : Nat × Nat × Nat} {P P' P'' : List Nat} {E : sgE} {N N' N'' : sgN} {S S' S'' : sgS} {M : sgM} {C C' C'' : sgC} {O : sgO} {L L' L'' : sgL} {t n kc kr : Nat}
theorem pl_sl {k t : Nat} (hk : k ≤ 1036) (ht : tv k t) : cm_sl (pl t) = cm_sl t ∧ ((t / 65536 % 2 = 1 ∨ pl t / 256 = 13) ↔ 3328 ≤ pl t) ∧ (t < 3328 ↔ rt t < 65536) ∧ (t < 3328 ↔ pl t < 3328) ∧ rt (pl t) = rb (pl t) := by
  unfold tv tb at ht
  unfold cm_sl pl rt rb
  refine ⟨?_, ?_, ?_, ?_, ?_⟩
  · split
    · rw [show (t - 1048576) / 65536 % 2 = t / 65536 % 2 by omega, show (t - 1048576) % 65536 = t % 65536 by omega, show (t - 1048576) % 256 = t % 256 by omega]
    · rfl
  · split <;> omega
  · split
    · split <;> omega
    · split
      · omega
      · split
        · omega
        · split <;> omega
  · split <;> omega
  · rw [if_neg]
    split <;> omega
/-- target -/
theorem p_65 (hR : mj_Rt mp_R Rf) (hM' : mj_Rt mm_R Rf) (hr' : nc + 1 ≤ X.2.2.1 ∧ ns + 6 ≤ X.2.2.2) (hv : gv (K, P, E, N, S, M, C, O, L)) (hp : P.length ≤ 10000) (h : RC fb vb (K, P, E, N, S, M, C, O, L) I)
    (hQ1 : ∀ P' N' L' I' u, gv (K, P', E, N', S, M, C, O, L') → RC fb vb (K, P', E, N', S, M, C, O, L') I' → P'.length ≤ 9999 → xs K P N S C L K P' N' S C L' → tb N'.2.2 u → 3328 ≤ u → RX X Rf 7 171 [.ref 36] (K, P, E, N, S, M, C, O, L) na (some (.int (nI (rt u)))) (K, P', E, N', S, M, C, O, L') na → Q (.inl (some (.int (nI (cm_sl u))))) (sh59, I', Lg, Rf, nc, ns))
    (hQ3 : ∀ g' I', RCf fb vb g' I' → RY X Rf 7 171 [.ref 36] (K, P, E, N, S, M, C, O, L) na (some (.int 65536)) g' → Q (.inr 500) (sh59, I', Lg, Rf, nc + 1, ns + 6)) :
    mj_call X mj_P (mj_bi X) (d + 4) 65 [.ref 34] (sh59, I, Lg, Rf, nc, ns) Q := by
  have hr := mc_rf hR
  have hm := mm_rf hM'
  have tle := tl_le (gv_d hv).2.2.2.2.2.2.2
  have fail : ∀ (H J : Nat → Nat → Int32) (Lg : Nat → Nat → Int64) (d nc ns : Nat) (Q : mj_Q) (g' : sg) (x : Int32), RD H g' J → Q (.inl (some (.int 65536))) (sh59, J, Lg, Rf, nc, ns) → mj_rn X (mj_hd []) (mj_call X mj_P (mj_bi X) (d + 6)) mb_171 42 [some (.ref 36), some (.int x)] [] (sh59, J, Lg, Rf, nc, ns) Q := by
    intro H J Lg d nc ns Q g' x hJ hq
    refine mj_blk rfl ?_
    simp +decide only [mjs_0, mjs_1, mjs_2, mjs_3, mjs_ble, true_and, Bool.false_eq_true, if_false, if_true, Nat.reduceAdd, Nat.reduceSub, Nat.reduceLeDiff, false_implies, true_implies, not_false_eq_true, not_true_eq_false, and_true, mm_sh, hm, mjs_up_at, mjs_up_c, mjs_up_f]
    refine ⟨fun q => absurd q (rd_nle hJ), fun _ => mj_blk rfl ?_⟩
    simp +decide only [mjs_0, mjs_1, mjs_2, mjs_3, mjs_ble, true_and, Bool.false_eq_true, if_false, if_true, Nat.reduceAdd, Nat.reduceSub, Nat.reduceLeDiff, false_implies, true_implies, not_false_eq_true, not_true_eq_false, and_true, mm_sh, hm, mjs_up_at, mjs_up_c, mjs_up_f]
    refine mj_blk rfl ?_
    simp +decide only [mjs_0, mjs_1, mjs_2, mjs_3, mjs_ble, true_and, Bool.false_eq_true, if_false, if_true, Nat.reduceAdd, Nat.reduceSub, Nat.reduceLeDiff, false_implies, true_implies, not_false_eq_true, not_true_eq_false, and_true, mm_sh, hm, mjs_up_at, mjs_up_c, mjs_up_f]
    exact hq
  have fail5 : ∀ (H J : Nat → Nat → Int32) (Lg : Nat → Nat → Int64) (d nc ns : Nat) (Q : mj_Q) (g' : sg), RD H g' J → Q (.inl (some (.int 65536))) (sh59, J, Lg, Rf, nc, ns) → mj_rn X (mj_hd []) (mj_call X mj_P (mj_bi X) (d + 6)) mb_171 5 [some (.ref 36), some (.int (-1))] [] (sh59, J, Lg, Rf, nc, ns) Q := by
    intro H J Lg d nc ns Q g' hJ hq
    refine mj_blk rfl ?_
    simp +decide only [mjs_0, mjs_1, mjs_2, mjs_3, mjs_ble, true_and, Bool.false_eq_true, if_false, if_true, Nat.reduceAdd, Nat.reduceSub, Nat.reduceLeDiff, false_implies, true_implies, not_false_eq_true, not_true_eq_false, and_true, mm_sh, hm, mjs_up_at, mjs_up_c, mjs_up_f]
    refine r_121e ?_
    simp +decide only [mjs_0, mjs_1, mjs_2, mjs_3, mjs_ble, true_and, Bool.false_eq_true, if_false, if_true, Nat.reduceAdd, Nat.reduceSub, Nat.reduceLeDiff, false_implies, true_implies, not_false_eq_true, not_true_eq_false, and_true, mm_sh, hm, mjs_up_at, mjs_up_c, mjs_up_f]
    refine mj_blk rfl ?_
    simp +decide only [mjs_0, mjs_1, mjs_2, mjs_3, mjs_ble, true_and, Bool.false_eq_true, if_false, if_true, Nat.reduceAdd, Nat.reduceSub, Nat.reduceLeDiff, false_implies, true_implies, not_false_eq_true, not_true_eq_false, and_true, mm_sh, hm, mjs_up_at, mjs_up_c, mjs_up_f]
    exact ⟨fun _ => fail H J Lg d nc ns Q g' _ hJ hq, fun q => absurd (rd_ne hJ) q⟩
  have loop : ∀ (m i t : Nat) (P' : List Nat) (N' : sgN) (L' : sgL) (I' : Nat → Nat → Int32), P'.length + tl L' ≤ m → i + m ≤ 20000 → gv (K, P', E, N', S, M, C, O, L') → RC fb vb (K, P', E, N', S, M, C, O, L') I' → P'.length ≤ 9999 → xs K P N S C L K P' N' S C L' → tv N'.2.2 t → RM X Rf mb_171 6 0 [some (.ref 36), none] [] (K, P, E, N, S, M, C, O, L) na 5 [some (.ref 36), some (.int (nI (rt t)))] [] (K, P', E, N', S, M, C, O, L') na → mj_rn X (mj_hd []) (mj_call X mj_P (mj_bi X) (d + 3)) mb_65 11 [some (.ref 34), some (.int (nI t)), some (.int (nI i))] [] (sh59, I', Lg, Rf, nc, ns) Q := by
    intro m
    induction m using Nat.strongRecOn with
    | ind m ih =>
      intro i t P' N' L' I' b1 b2 hv' h' hp' hx ht hM
      have hk : N'.2.2 ≤ 1036 := (gv_d hv').2.2.1.2.1
      have hk1 : 36 ≤ N'.2.2 := (gv_d hv').2.2.1.1
      have htl := tv_lt hk ht
      have hrt := rt_lt hk hk1 ht
      refine mj_blk rfl ?_
      simp +decide only [mjs_0, mjs_1, mjs_2, mjs_3, mjs_ble, true_and, Bool.false_eq_true, if_false, if_true, Nat.reduceAdd, Nat.reduceSub, Nat.reduceLeDiff, false_implies, true_implies, not_false_eq_true, not_true_eq_false, and_true]
      refine ⟨fun q => absurd q (nI_ge (a := i) (b := 1000000000) (by omega) (by decide)), fun _ => mj_blk rfl ?_⟩
      simp +decide only [mjs_0, mjs_1, mjs_2, mjs_3, mjs_ble, true_and, Bool.false_eq_true, if_false, if_true, Nat.reduceAdd, Nat.reduceSub, Nat.reduceLeDiff, false_implies, true_implies, not_false_eq_true, not_true_eq_false, and_true]
      refine c_190 (by omega) ?_
      by_cases e : t / 256 = 10
      · rw [if_pos e]
        simp +decide only [mjs_0, mjs_1, mjs_2, mjs_3, mjs_ble, true_and, Bool.false_eq_true, if_false, if_true, Nat.reduceAdd, Nat.reduceSub, Nat.reduceLeDiff, false_implies, true_implies, not_false_eq_true, not_true_eq_false, and_true]
        refine mj_blk rfl ?_
        simp +decide only [mjs_0, mjs_1, mjs_2, mjs_3, mjs_ble, true_and, Bool.false_eq_true, if_false, if_true, Nat.reduceAdd, Nat.reduceSub, Nat.reduceLeDiff, false_implies, true_implies, not_false_eq_true, not_true_eq_false, and_true, mc_sh, hr, mjs_up_at, mjs_up_c, mjs_up_f]
        refine p_85n hR hM' hv' h' (by omega) hr' (fun t2 P2 N2 L2 I2 a1 a2 a3 a4 a5 a6 a7 a8 => ?_) (fun g2 I2 a1 a2 => ?_)
        · simp +decide only [mjs_0, mjs_1, mjs_2, mjs_3, mjs_ble, true_and, Bool.false_eq_true, if_false, if_true, Nat.reduceAdd, Nat.reduceSub, Nat.reduceLeDiff, false_implies, true_implies, not_false_eq_true, not_true_eq_false, and_true, nI_1]
          refine mj_nv (ih (P2.length + tl L2) (by omega) (i + 1) t2 P2 N2 L2 I2 (Nat.le_refl _) (by omega) a1 a2 a5.1 (xs_tr hx (xs_get a3 (by omega) a6)) a7 (rm_tr hM ?_))
          intro H Lg d nc ns J Q hJ hA hq
          refine mj_blk rfl ?_
          simp +decide only [mjs_0, mjs_1, mjs_2, mjs_3, mjs_ble, true_and, Bool.false_eq_true, if_false, if_true, Nat.reduceAdd, Nat.reduceSub, Nat.reduceLeDiff, false_implies, true_implies, not_false_eq_true, not_true_eq_false, and_true, mm_sh, hm, mjs_up_at, mjs_up_c, mjs_up_f]
          refine rq_121 (c := 10) hk hk1 ht (by decide) (fun _ => ?_) (fun e1 => absurd ((cg_10 ht).mp e) e1)
          simp +decide only [mjs_0, mjs_1, mjs_2, mjs_3, mjs_ble, true_and, Bool.false_eq_true, if_false, if_true, Nat.reduceAdd, Nat.reduceSub, Nat.reduceLeDiff, false_implies, true_implies, not_false_eq_true, not_true_eq_false, and_true, mm_sh, hm, mjs_up_at, mjs_up_c, mjs_up_f]
          refine mj_blk rfl ?_
          simp +decide only [mjs_0, mjs_1, mjs_2, mjs_3, mjs_ble, true_and, Bool.false_eq_true, if_false, if_true, Nat.reduceAdd, Nat.reduceSub, Nat.reduceLeDiff, false_implies, true_implies, not_false_eq_true, not_true_eq_false, and_true, mm_sh, hm, mjs_up_at, mjs_up_c, mjs_up_f]
          refine a8 H Lg d nc ns J _ hJ (fun J1 c1 => ?_)
          simp +decide only [mjs_0, mjs_1, mjs_2, mjs_3, mjs_ble, true_and, Bool.false_eq_true, if_false, if_true, Nat.reduceAdd, Nat.reduceSub, Nat.reduceLeDiff, false_implies, true_implies, not_false_eq_true, not_true_eq_false, and_true, mm_sh, hm, mjs_up_at, mjs_up_c, mjs_up_f]
          exact mj_nv (hq H J1 hx_rf c1 trivial)
        · simp +decide only [mjs_0, mjs_1, mjs_2, mjs_3, mjs_ble, true_and, Bool.false_eq_true, if_false, if_true, Nat.reduceAdd, Nat.reduceSub, Nat.reduceLeDiff, false_implies, true_implies, not_false_eq_true, not_true_eq_false, and_true]
          refine hQ3 g2 I2 a1 (ry_in (z := 2) (by decide) rfl rfl rfl (rm_f hM ?_))
          intro H Lg d nc ns J Q hJ hA hq
          refine mj_blk rfl ?_
          simp +decide only [mjs_0, mjs_1, mjs_2, mjs_3, mjs_ble, true_and, Bool.false_eq_true, if_false, if_true, Nat.reduceAdd, Nat.reduceSub, Nat.reduceLeDiff, false_implies, true_implies, not_false_eq_true, not_true_eq_false, and_true, mm_sh, hm, mjs_up_at, mjs_up_c, mjs_up_f]
          refine rq_121 (c := 10) hk hk1 ht (by decide) (fun _ => ?_) (fun e1 => absurd ((cg_10 ht).mp e) e1)
          simp +decide only [mjs_0, mjs_1, mjs_2, mjs_3, mjs_ble, true_and, Bool.false_eq_true, if_false, if_true, Nat.reduceAdd, Nat.reduceSub, Nat.reduceLeDiff, false_implies, true_implies, not_false_eq_true, not_true_eq_false, and_true, mm_sh, hm, mjs_up_at, mjs_up_c, mjs_up_f]
          refine mj_blk rfl ?_
          simp +decide only [mjs_0, mjs_1, mjs_2, mjs_3, mjs_ble, true_and, Bool.false_eq_true, if_false, if_true, Nat.reduceAdd, Nat.reduceSub, Nat.reduceLeDiff, false_implies, true_implies, not_false_eq_true, not_true_eq_false, and_true, mm_sh, hm, mjs_up_at, mjs_up_c, mjs_up_f]
          refine a2 H Lg d nc ns J _ hJ (fun J1 c1 => ?_)
          simp +decide only [mjs_0, mjs_1, mjs_2, mjs_3, mjs_ble, true_and, Bool.false_eq_true, if_false, if_true, Nat.reduceAdd, Nat.reduceSub, Nat.reduceLeDiff, false_implies, true_implies, not_false_eq_true, not_true_eq_false, and_true, mm_sh, hm, mjs_up_at, mjs_up_c, mjs_up_f]
          exact mj_nv (fail5 H J1 Lg d nc ns Q g2 c1 (hq J1 c1))
      · rw [if_neg e]
        simp +decide only [mjs_0, mjs_1, mjs_2, mjs_3, mjs_ble, true_and, Bool.false_eq_true, if_false, if_true, Nat.reduceAdd, Nat.reduceSub, Nat.reduceLeDiff, false_implies, true_implies, not_false_eq_true, not_true_eq_false, and_true]
        obtain ⟨s1, s2, s3, s4, s5⟩ := pl_sl hk ht
        obtain ⟨s6, s7⟩ := rt_pl hk hk1 ht
        have hplt : (if t / 1048576 % 2 = 1 then t - 1048576 else t) = pl t := rfl
        have yes : 3328 ≤ pl t → mj_rn X (mj_hd []) (mj_call X mj_P (mj_bi X) (d + 3)) mb_65 63 [none, some (.int (nI t)), none] [] (sh59, I', Lg, Rf, nc, ns) Q := by
          intro hp3
          refine mj_blk rfl ?_
          simp +decide only [mjs_0, mjs_1, mjs_2, mjs_3, mjs_ble, true_and, Bool.false_eq_true, if_false, if_true, Nat.reduceAdd, Nat.reduceSub, Nat.reduceLeDiff, false_implies, true_implies, not_false_eq_true, not_true_eq_false, and_true]
          refine c_192 (by omega) ?_
          simp +decide only [mjs_0, mjs_1, mjs_2, mjs_3, mjs_ble, true_and, Bool.false_eq_true, if_false, if_true, Nat.reduceAdd, Nat.reduceSub, Nat.reduceLeDiff, false_implies, true_implies, not_false_eq_true, not_true_eq_false, and_true]
          have := hQ1 P' N' L' I' (pl t) hv' h' hp' hx s7 hp3 (rx_in (z := 2) (by decide) rfl rfl rfl (rm_e hM ?_))
          · rw [s1] at this
            exact this
          · intro H Lg d nc ns J Q hJ hA hq
            refine mj_blk rfl ?_
            simp +decide only [mjs_0, mjs_1, mjs_2, mjs_3, mjs_ble, true_and, Bool.false_eq_true, if_false, if_true, Nat.reduceAdd, Nat.reduceSub, Nat.reduceLeDiff, false_implies, true_implies, not_false_eq_true, not_true_eq_false, and_true, mm_sh, hm, mjs_up_at, mjs_up_c, mjs_up_f]
            refine rq_121 (c := 10) hk hk1 ht (by decide) (fun e1 => absurd ((cg_10 ht).mpr e1) e) (fun _ => ?_)
            simp +decide only [mjs_0, mjs_1, mjs_2, mjs_3, mjs_ble, true_and, Bool.false_eq_true, if_false, if_true, Nat.reduceAdd, Nat.reduceSub, Nat.reduceLeDiff, false_implies, true_implies, not_false_eq_true, not_true_eq_false, and_true, mm_sh, hm, mjs_up_at, mjs_up_c, mjs_up_f]
            refine mj_blk rfl ?_
            simp +decide only [mjs_0, mjs_1, mjs_2, mjs_3, mjs_ble, true_and, Bool.false_eq_true, if_false, if_true, Nat.reduceAdd, Nat.reduceSub, Nat.reduceLeDiff, false_implies, true_implies, not_false_eq_true, not_true_eq_false, and_true, mm_sh, hm, mjs_up_at, mjs_up_c, mjs_up_f, (rr_d hJ).1.2.2.2]
            refine mj_blk rfl ?_
            simp +decide only [mjs_0, mjs_1, mjs_2, mjs_3, mjs_ble, true_and, Bool.false_eq_true, if_false, if_true, Nat.reduceAdd, Nat.reduceSub, Nat.reduceLeDiff, false_implies, true_implies, not_false_eq_true, not_true_eq_false, and_true, mm_sh, hm, mjs_up_at, mjs_up_c, mjs_up_f]
            refine r_119 (by omega) ?_
            rw [if_neg (by omega)]
            simp +decide only [mjs_0, mjs_1, mjs_2, mjs_3, mjs_ble, true_and, Bool.false_eq_true, if_false, if_true, Nat.reduceAdd, Nat.reduceSub, Nat.reduceLeDiff, false_implies, true_implies, not_false_eq_true, not_true_eq_false, and_true, mm_sh, hm, mjs_up_at, mjs_up_c, mjs_up_f]
            refine mj_blk rfl ?_
            simp +decide only [mjs_0, mjs_1, mjs_2, mjs_3, mjs_ble, true_and, Bool.false_eq_true, if_false, if_true, Nat.reduceAdd, Nat.reduceSub, Nat.reduceLeDiff, false_implies, true_implies, not_false_eq_true, not_true_eq_false, and_true, mm_sh, hm, mjs_up_at, mjs_up_c, mjs_up_f, (rr_d hJ).1.2.2.2]
            refine mj_blk rfl ?_
            simp +decide only [mjs_0, mjs_1, mjs_2, mjs_3, mjs_ble, true_and, Bool.false_eq_true, if_false, if_true, Nat.reduceAdd, Nat.reduceSub, Nat.reduceLeDiff, false_implies, true_implies, not_false_eq_true, not_true_eq_false, and_true, mm_sh, hm, mjs_up_at, mjs_up_c, mjs_up_f]
            refine r_123 (by omega) ?_
            rw [s6, ← s5]
            simp +decide only [mjs_0, mjs_1, mjs_2, mjs_3, mjs_ble, true_and, Bool.false_eq_true, if_false, if_true, Nat.reduceAdd, Nat.reduceSub, Nat.reduceLeDiff, false_implies, true_implies, not_false_eq_true, not_true_eq_false, and_true, mm_sh, hm, mjs_up_at, mjs_up_c, mjs_up_f]
            refine mj_blk rfl ?_
            simp +decide only [mjs_0, mjs_1, mjs_2, mjs_3, mjs_ble, true_and, Bool.false_eq_true, if_false, if_true, Nat.reduceAdd, Nat.reduceSub, Nat.reduceLeDiff, false_implies, true_implies, not_false_eq_true, not_true_eq_false, and_true, mm_sh, hm, mjs_up_at, mjs_up_c, mjs_up_f]
            exact hq H J hx_rf hJ trivial
        refine mj_blk rfl ?_
        simp +decide only [mjs_0, mjs_1, mjs_2, mjs_3, mjs_ble, true_and, Bool.false_eq_true, if_false, if_true, Nat.reduceAdd, Nat.reduceSub, Nat.reduceLeDiff, false_implies, true_implies, not_false_eq_true, not_true_eq_false, and_true]
        refine c_186 (by omega) ?_
        by_cases e1 : t / 65536 % 2 = 1
        · rw [if_pos e1]
          simp +decide only [mjs_0, mjs_1, mjs_2, mjs_3, mjs_ble, true_and, Bool.false_eq_true, if_false, if_true, Nat.reduceAdd, Nat.reduceSub, Nat.reduceLeDiff, false_implies, true_implies, not_false_eq_true, not_true_eq_false, and_true]
          exact mj_nv (yes (s2.mp (Or.inl e1)))
        · rw [if_neg e1]
          simp +decide only [mjs_0, mjs_1, mjs_2, mjs_3, mjs_ble, true_and, Bool.false_eq_true, if_false, if_true, Nat.reduceAdd, Nat.reduceSub, Nat.reduceLeDiff, false_implies, true_implies, not_false_eq_true, not_true_eq_false, and_true]
          refine mj_blk rfl ?_
          simp +decide only [mjs_0, mjs_1, mjs_2, mjs_3, mjs_ble, true_and, Bool.false_eq_true, if_false, if_true, Nat.reduceAdd, Nat.reduceSub, Nat.reduceLeDiff, false_implies, true_implies, not_false_eq_true, not_true_eq_false, and_true]
          refine c_187 (by omega) ?_
          rw [hplt]
          by_cases e2 : pl t / 256 = 13
          · rw [if_pos e2]
            simp +decide only [mjs_0, mjs_1, mjs_2, mjs_3, mjs_ble, true_and, Bool.false_eq_true, if_false, if_true, Nat.reduceAdd, Nat.reduceSub, Nat.reduceLeDiff, false_implies, true_implies, not_false_eq_true, not_true_eq_false, and_true]
            exact mj_nv (yes (s2.mp (Or.inr e2)))
          · rw [if_neg e2]
            have h33 : t < 3328 := by
              have : ¬ 3328 ≤ pl t := fun q => by
                rcases s2.mpr q with q | q
                · exact e1 q
                · exact e2 q
              omega
            simp +decide only [mjs_0, mjs_1, mjs_2, mjs_3, mjs_ble, true_and, Bool.false_eq_true, if_false, if_true, Nat.reduceAdd, Nat.reduceSub, Nat.reduceLeDiff, false_implies, true_implies, not_false_eq_true, not_true_eq_false, and_true]
            refine mj_blk rfl ?_
            simp +decide only [mjs_0, mjs_1, mjs_2, mjs_3, mjs_ble, true_and, Bool.false_eq_true, if_false, if_true, Nat.reduceAdd, Nat.reduceSub, Nat.reduceLeDiff, false_implies, true_implies, not_false_eq_true, not_true_eq_false, and_true, mc_sh, hr, mjs_up_at, mjs_up_c, mjs_up_f]
            refine c_80 s59_1 hr' ?_
            simp +decide only [mjs_0, mjs_1, mjs_2, mjs_3, mjs_ble, true_and, Bool.false_eq_true, if_false, if_true, Nat.reduceAdd, Nat.reduceSub, Nat.reduceLeDiff, false_implies, true_implies, not_false_eq_true, not_true_eq_false, and_true]
            refine hQ3 _ _ (rc_f hv' h') (ry_in (z := 2) (by decide) rfl rfl rfl (rm_f hM ?_))
            intro H Lg d nc ns J Q hJ hA hq
            refine mj_blk rfl ?_
            simp +decide only [mjs_0, mjs_1, mjs_2, mjs_3, mjs_ble, true_and, Bool.false_eq_true, if_false, if_true, Nat.reduceAdd, Nat.reduceSub, Nat.reduceLeDiff, false_implies, true_implies, not_false_eq_true, not_true_eq_false, and_true, mm_sh, hm, mjs_up_at, mjs_up_c, mjs_up_f]
            refine rq_121 (c := 10) hk hk1 ht (by decide) (fun e1 => absurd ((cg_10 ht).mpr e1) e) (fun _ => ?_)
            simp +decide only [mjs_0, mjs_1, mjs_2, mjs_3, mjs_ble, true_and, Bool.false_eq_true, if_false, if_true, Nat.reduceAdd, Nat.reduceSub, Nat.reduceLeDiff, false_implies, true_implies, not_false_eq_true, not_true_eq_false, and_true, mm_sh, hm, mjs_up_at, mjs_up_c, mjs_up_f]
            refine mj_blk rfl ?_
            simp +decide only [mjs_0, mjs_1, mjs_2, mjs_3, mjs_ble, true_and, Bool.false_eq_true, if_false, if_true, Nat.reduceAdd, Nat.reduceSub, Nat.reduceLeDiff, false_implies, true_implies, not_false_eq_true, not_true_eq_false, and_true, mm_sh, hm, mjs_up_at, mjs_up_c, mjs_up_f, (rr_d hJ).1.2.2.2]
            refine mj_blk rfl ?_
            simp +decide only [mjs_0, mjs_1, mjs_2, mjs_3, mjs_ble, true_and, Bool.false_eq_true, if_false, if_true, Nat.reduceAdd, Nat.reduceSub, Nat.reduceLeDiff, false_implies, true_implies, not_false_eq_true, not_true_eq_false, and_true, mm_sh, hm, mjs_up_at, mjs_up_c, mjs_up_f]
            refine r_119 (by omega) ?_
            rw [if_pos (s3.mp h33)]
            simp +decide only [mjs_0, mjs_1, mjs_2, mjs_3, mjs_ble, true_and, Bool.false_eq_true, if_false, if_true, Nat.reduceAdd, Nat.reduceSub, Nat.reduceLeDiff, false_implies, true_implies, not_false_eq_true, not_true_eq_false, and_true, mm_sh, hm, mjs_up_at, mjs_up_c, mjs_up_f]
            refine mj_blk rfl ?_
            simp +decide only [mjs_0, mjs_1, mjs_2, mjs_3, mjs_ble, true_and, Bool.false_eq_true, if_false, if_true, Nat.reduceAdd, Nat.reduceSub, Nat.reduceLeDiff, false_implies, true_implies, not_false_eq_true, not_true_eq_false, and_true, mm_sh, hm, mjs_up_at, mjs_up_c, mjs_up_f]
            refine c_106 s59_36 ?_
            rw [if_pos (rr_d hJ).1.2.2.2]
            simp +decide only [mjs_0, mjs_1, mjs_2, mjs_3, mjs_ble, true_and, Bool.false_eq_true, if_false, if_true, Nat.reduceAdd, Nat.reduceSub, Nat.reduceLeDiff, false_implies, true_implies, not_false_eq_true, not_true_eq_false, and_true, mm_sh, hm, mjs_up_at, mjs_up_c, mjs_up_f]
            have hJ6 := rr_f (f := 6) (by decide) (by decide) hJ
            exact fail H _ Lg d nc ns Q _ _ hJ6 (hq _ hJ6)
  refine mj_enter (z := (3, [], mb_65)) (by decide) rfl rfl ?_
  refine mj_blk rfl ?_
  simp +decide only [mjs_0, mjs_1, mjs_2, mjs_3, mjs_ble, true_and, Bool.false_eq_true, if_false, if_true, Nat.reduceAdd, Nat.reduceSub, Nat.reduceLeDiff, false_implies, true_implies, not_false_eq_true, not_true_eq_false, and_true, mc_sh, hr, mjs_up_at, mjs_up_c, mjs_up_f]
  refine p_85n hR hM' hv h hp hr' (fun t2 P2 N2 L2 I2 a1 a2 a3 a4 a5 a6 a7 a8 => ?_) (fun g2 I2 a1 a2 => ?_)
  · simp +decide only [mjs_0, mjs_1, mjs_2, mjs_3, mjs_ble, true_and, Bool.false_eq_true, if_false, if_true, Nat.reduceAdd, Nat.reduceSub, Nat.reduceLeDiff, false_implies, true_implies, not_false_eq_true, not_true_eq_false, and_true]
    refine mj_nv (loop (P2.length + tl L2) 0 t2 P2 N2 L2 I2 (Nat.le_refl _) (by omega) a1 a2 a5.1 (xs_get a3 (by omega) a6) a7 ?_)
    intro H Lg d nc ns J Q hJ hA hq
    refine mj_blk rfl ?_
    simp +decide only [mjs_0, mjs_1, mjs_2, mjs_3, mjs_ble, true_and, Bool.false_eq_true, if_false, if_true, Nat.reduceAdd, Nat.reduceSub, Nat.reduceLeDiff, false_implies, true_implies, not_false_eq_true, not_true_eq_false, and_true, mm_sh, hm, mjs_up_at, mjs_up_c, mjs_up_f]
    refine a8 H Lg d nc ns J _ hJ (fun J1 c1 => ?_)
    simp +decide only [mjs_0, mjs_1, mjs_2, mjs_3, mjs_ble, true_and, Bool.false_eq_true, if_false, if_true, Nat.reduceAdd, Nat.reduceSub, Nat.reduceLeDiff, false_implies, true_implies, not_false_eq_true, not_true_eq_false, and_true, mm_sh, hm, mjs_up_at, mjs_up_c, mjs_up_f]
    exact mj_nv (hq H J1 hx_rf c1 trivial)
  · simp +decide only [mjs_0, mjs_1, mjs_2, mjs_3, mjs_ble, true_and, Bool.false_eq_true, if_false, if_true, Nat.reduceAdd, Nat.reduceSub, Nat.reduceLeDiff, false_implies, true_implies, not_false_eq_true, not_true_eq_false, and_true]
    refine hQ3 g2 I2 a1 (ry_in (z := 2) (by decide) rfl rfl rfl ?_)
    intro H Lg d nc ns J Q hJ hA hq
    refine mj_blk rfl ?_
    simp +decide only [mjs_0, mjs_1, mjs_2, mjs_3, mjs_ble, true_and, Bool.false_eq_true, if_false, if_true, Nat.reduceAdd, Nat.reduceSub, Nat.reduceLeDiff, false_implies, true_implies, not_false_eq_true, not_true_eq_false, and_true, mm_sh, hm, mjs_up_at, mjs_up_c, mjs_up_f]
    refine a2 H Lg d nc ns J _ hJ (fun J1 c1 => ?_)
    simp +decide only [mjs_0, mjs_1, mjs_2, mjs_3, mjs_ble, true_and, Bool.false_eq_true, if_false, if_true, Nat.reduceAdd, Nat.reduceSub, Nat.reduceLeDiff, false_implies, true_implies, not_false_eq_true, not_true_eq_false, and_true, mm_sh, hm, mjs_up_at, mjs_up_c, mjs_up_f]
    exact mj_nv (fail5 H J1 Lg d nc ns Q g2 c1 (hq J1 c1))
end MJTA
