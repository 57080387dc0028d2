/-! DEFINE as a whole, in both -/
/-- a call of the reference that may write its macros' rows -/
def RXw (X : mj_X) (Rf : Nat → Nat → Option Nat) (k M : Nat) (as : List Value) (g : sg) (o : Option Value) (g' : sg) : Prop := ∀ (H : Nat → Nat → Int32) (Lg : Nat → Nat → Int64) (d nc ns : Nat) (J : Nat → Nat → Int32) (Q : mj_Q), RR H g J → (∀ H' J', (∀ c, c < 36 → H' c = H c) → RR H' g' J' → Q (.inl o) (sh59, J', Lg, Rf, nc, ns)) → mj_call X mj_P (mj_bi X) (d + k) M as (sh59, J, Lg, Rf, nc, ns) Q
section MJDF
variable {X : mj_X} {d nc ns : Nat} {Q : mj_Q} {I I' J J' H : Nat → Nat → Int32} {Lg : Nat → Nat → Int64} {Rf : Nat → Nat → Option Nat} {fb fb' : Nat → Nat → Int32} {vb : Nat → Int32} {K K' K2 : Nat × Nat × Nat} {P P' P2 : List Nat} {E : sgE} {N N' N2 : sgN} {S S' S2 : sgS} {M M' : sgM} {C C' C2 : sgC} {O : sgO} {L L' L2 : sgL} {t n kc kr gl k a z xf h0 m b uu : Nat} {u : Int32} {g' g0 : sg}
theorem r_334 (hM' : mj_Rt mm_R Rf) (hv : gv (K, P, E, N, S, M, C, O, L)) (hu : tb N.2.2 uu) (hu2 : 3328 ≤ uu) (hJ : RR H (K, P, E, N, S, M, C, O, L) J) (hg : gl = 0 ∨ gl = 1) (hrm : M.2.2.2.2.2 + 1 ≤ 30001) (hE : M' = mkE M ∨ ∃ z, M' = mkN M z) (hva : gv (K, P, E, N, S, M', C, O, L)) (hmw : ∀ pa hd bd en : Nat → Int32, pa M.2.2.2.2.2 = nI n → hd M.2.2.2.2.2 = nI h0 → bd M.2.2.2.2.2 = nI b → en M.2.2.2.2.2 = nI M.2.2.2.1 → mw M' pa hd bd en (nI (131072 + a)) (nI (100000 + M.2.2.2.2.2))) {D : Nat}
    (hq : ∀ H' J', (∀ c, c < 36 → H' c = H c) → (∀ s', RR H' (K, P, E, N, stS S (cm_sl uu) (nI (131072 + a)) gl s', M', C, O, L) J') → Q (.inl none) (sh59, J', Lg, Rf, nc, ns)) :
    mj_rn X (mj_hd []) (mj_call X mj_P (mj_bi X) (D + 5)) mb_177 334 (z3 gl (nI (rt uu)) h0 n b) [] (sh59, J, Lg, Rf, nc, ns) Q := by
  have hm := mm_rf hM'
  have hk : N.2.2 ≤ 1036 := (gv_d hv).2.2.1.2.1
  have hk1 : 36 ≤ N.2.2 := (gv_d hv).2.2.1.1
  have ert := rt_tb hk hu
  have rl := rb_lt hk hk1 hu
  have hid := (rr_me hJ hv (Or.inl hu)).2.1
  obtain ⟨hK, hP, hE', hN, hS, hM, hC, hO, hL, hZ⟩ := rr_d hJ
  have hlv : S.2.2.1 ≤ 100 := hS.2.2.2.2
  have hba : mr_ba (rt uu) = rb uu := by
    unfold mr_ba
    rw [ert, if_neg (by omega)]
  have j22 : J 36 22 = nI M.2.2.2.2.2 := hM.2.1
  have er : (nI M.2.2.2.2.2).toNatClampNeg = M.2.2.2.2.2 := nI_clamp (by omega)
  unfold z3
  refine mj_blk rfl ?_
  simp +decide only [mjs_0, mjs_1, mjs_2, mjs_3, mjs_ble, true_and, Bool.false_eq_true, if_false, if_true, Nat.reduceAdd, Nat.reduceSub, Nat.reduceLeDiff, false_implies, true_implies, not_false_eq_true, not_true_eq_false, and_true, mm_sh, hm, mjs_up_at, mjs_up_c, mjs_up_f, hK.2.2.2]
  refine mj_blk rfl ?_
  simp +decide only [mjs_0, mjs_1, mjs_2, mjs_3, mjs_ble, true_and, Bool.false_eq_true, if_false, if_true, Nat.reduceAdd, Nat.reduceSub, Nat.reduceLeDiff, false_implies, true_implies, not_false_eq_true, not_true_eq_false, and_true, mm_sh, hm, mjs_up_at, mjs_up_c, mjs_up_f, j22, hM.1, er, show (100000 : Int32) + nI M.2.2.2.2.2 = nI (100000 + M.2.2.2.2.2) from nI_add 100000 M.2.2.2.2.2]
  refine ⟨nI_in (by omega) (by decide), nI_in (by omega) (by decide), nI_in (by omega) (by decide), nI_in (by omega) (by decide), ?_⟩
  generalize hJ1 : mj_up (mj_up (mj_up (mj_up J 48 M.2.2.2.2.2 (nI n)) 49 M.2.2.2.2.2 (nI h0)) 50 M.2.2.2.2.2 (nI b)) 51 M.2.2.2.2.2 (nI M.2.2.2.1) = J1
  have o1 : ∀ c q, c ≠ 48 → c ≠ 49 → c ≠ 50 → c ≠ 51 → J1 c q = J c q := by
    intro c q c1 c2 c3 c4
    rw [← hJ1, mjs_up_c c4, mjs_up_c c3, mjs_up_c c2, mjs_up_c c1]
  have w48 : ∀ q, J1 48 q = if q = M.2.2.2.2.2 then nI n else J 48 q := by
    intro q
    rw [← hJ1, mjs_up_c (by decide), mjs_up_c (by decide), mjs_up_c (by decide)]
    by_cases e : q = M.2.2.2.2.2
    · rw [if_pos e, e, mjs_up_at]
    · rw [if_neg e, mjs_up_ne (Or.inr e)]
  have w49 : ∀ q, J1 49 q = if q = M.2.2.2.2.2 then nI h0 else J 49 q := by
    intro q
    rw [← hJ1, mjs_up_c (by decide), mjs_up_c (by decide)]
    by_cases e : q = M.2.2.2.2.2
    · rw [if_pos e, e, mjs_up_at]
    · rw [if_neg e, mjs_up_ne (Or.inr e), mjs_up_c (by decide)]
  have w50 : ∀ q, J1 50 q = if q = M.2.2.2.2.2 then nI b else J 50 q := by
    intro q
    rw [← hJ1, mjs_up_c (by decide)]
    by_cases e : q = M.2.2.2.2.2
    · rw [if_pos e, e, mjs_up_at]
    · rw [if_neg e, mjs_up_ne (Or.inr e), mjs_up_c (by decide), mjs_up_c (by decide)]
  have w51 : ∀ q, J1 51 q = if q = M.2.2.2.2.2 then nI M.2.2.2.1 else J 51 q := by
    intro q
    rw [← hJ1]
    by_cases e : q = M.2.2.2.2.2
    · rw [if_pos e, e, mjs_up_at]
    · rw [if_neg e, mjs_up_ne (Or.inr e), mjs_up_c (by decide), mjs_up_c (by decide), mjs_up_c (by decide)]
  clear hJ1
  refine r_128 (mm_W hM') (by rw [ert]; omega) (by rw [hba]; exact rl.2.2.2.1 hu2) (by rw [hba, ← ert]; exact hid (by rw [ert]; exact rl.2.2.2.1 hu2) (by rw [ert]; omega)) ((o1 36 17 (by decide) (by decide) (by decide) (by decide)).trans hS.1) hlv hg (fun J2 hs => ?_)
  rw [hba] at hs
  have j22' : J2 36 22 = nI M.2.2.2.2.2 := (hs.1 36 22 (by decide)).trans ((o1 36 22 (by decide) (by decide) (by decide) (by decide)).trans j22)
  simp +decide only [mjs_0, mjs_1, mjs_2, mjs_3, mjs_ble, true_and, Bool.false_eq_true, if_false, if_true, Nat.reduceAdd, Nat.reduceSub, Nat.reduceLeDiff, false_implies, true_implies, not_false_eq_true, not_true_eq_false, and_true, mm_sh, hm, mjs_up_at, mjs_up_c, mjs_up_f, j22', nI_1]
  refine mj_blk rfl ?_
  simp +decide only [mjs_0, mjs_1, mjs_2, mjs_3, mjs_ble, true_and, Bool.false_eq_true, if_false, if_true, Nat.reduceAdd, Nat.reduceSub, Nat.reduceLeDiff, false_implies, true_implies, not_false_eq_true, not_true_eq_false, and_true, mm_sh, hm, mjs_up_at, mjs_up_c, mjs_up_f]
  -- the state behind the rows
  have b1 : ∀ c q, c ≠ 36 → mj_up J1 36 22 (nI (M.2.2.2.2.2 + 1)) c q = J1 c q := fun c q hc => mjs_up_c hc
  have base : RR (mj_up J1 36 22 (nI (M.2.2.2.2.2 + 1))) (K, P, E, N, S, M', C, O, L) (mj_up J1 36 22 (nI (M.2.2.2.2.2 + 1))) := by
    have e3 : ∀ c q, mxm [36, 48, 49, 50, 51] c = false → mj_up J1 36 22 (nI (M.2.2.2.2.2 + 1)) c q = J c q := fun c q hc => (b1 c q (mxm_ne hc (by decide))).trans (o1 c q (mxm_ne hc (by decide)) (mxm_ne hc (by decide)) (mxm_ne hc (by decide)) (mxm_ne hc (by decide)))
    sorry
  sorry
end MJDF
