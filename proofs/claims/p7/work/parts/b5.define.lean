/-! DEFINE as a whole, in both -/
/-- a call of the reference that may write its macros' rows -/
def RXw (X : mj_X) (Rf : Nat → Nat → Option Nat) (k M : Nat) (as : List Value) (g : sg) (o : Option Value) (g' : sg) : Prop := ∀ (H : Nat → Nat → Int32) (Lg : Nat → Nat → Int64) (d nc ns : Nat) (J : Nat → Nat → Int32) (Q : mj_Q), RR H g J → (∀ H' J', (∀ c, c < 36 → H' c = H c) → RR H' g' J' → Q (.inl o) (sh59, J', Lg, Rf, nc, ns)) → mj_call X mj_P (mj_bi X) (d + k) M as (sh59, J, Lg, Rf, nc, ns) Q
section MJDF
variable {X : mj_X} {d nc ns : Nat} {Q : mj_Q} {I I' J J' H : Nat → Nat → Int32} {Lg : Nat → Nat → Int64} {Rf : Nat → Nat → Option Nat} {fb fb' : Nat → Nat → Int32} {vb : Nat → Int32} {K K' K2 : Nat × Nat × Nat} {P P' P2 : List Nat} {E : sgE} {N N' N2 : sgN} {S S' S2 : sgS} {M M' : sgM} {C C' C2 : sgC} {O : sgO} {L L' L2 : sgL} {t n kc kr gl k a z xf h0 m b uu : Nat} {u : Int32} {g' g0 : sg}
theorem r_334 (hM' : mj_Rt mm_R Rf) (hv : gv (K, P, E, N, S, M, C, O, L)) (hu : tb N.2.2 uu) (hu2 : 3328 ≤ uu) (hJ : RR H (K, P, E, N, S, M, C, O, L) J) (hg : gl = 0 ∨ gl = 1) (hrm : M.2.2.2.2.2 + 1 ≤ 30001) (hE : M' = mkE M ∨ ∃ z, M' = mkN M z) (hva : gv (K, P, E, N, S, M', C, O, L)) (hmw : ∀ pa hd bd en : Nat → Int32, pa M.2.2.2.2.2 = nI n → hd M.2.2.2.2.2 = nI h0 → bd M.2.2.2.2.2 = nI b → en M.2.2.2.2.2 = nI M.2.2.2.1 → mw M' pa hd bd en (nI (131072 + a)) (nI (100000 + M.2.2.2.2.2))) {D : Nat}
    (hq : ∀ H' J', (∀ c, c < 36 → H' c = H c) → (∀ s', RR H' (K, P, E, N, stS S (cm_sl uu) (nI (131072 + a)) gl s', M', C, O, L) J') → Q (.inl none) (sh59, J', Lg, Rf, nc, ns)) :
    mj_rn X (mj_hd []) (mj_call X mj_P (mj_bi X) (D + 5)) mb_177 334 (z3 gl (nI (rt uu)) h0 n b) [] (sh59, J, Lg, Rf, nc, ns) Q := by
  have hm := mm_rf hM'
  have hk : N.2.2 ≤ 1036 := (gv_d hv).2.2.1.2.1
  have hk1 : 36 ≤ N.2.2 := (gv_d hv).2.2.1.1
  have ert := rt_tb hk hu
  have rl := rb_lt hk hk1 hu
  have hid := (rr_me hJ hv (Or.inl hu)).2.1
  obtain ⟨hK, hP, hE', hN, hS, hM, hC, hO, hL, hZ⟩ := rr_d hJ
  have hlv : S.2.2.1 ≤ 100 := hS.2.2.2.2
  have hba : mr_ba (rt uu) = rb uu := by
    unfold mr_ba
    rw [ert, if_neg (by omega)]
  have j22 : J 36 22 = nI M.2.2.2.2.2 := hM.2.1
  have er : (nI M.2.2.2.2.2).toNatClampNeg = M.2.2.2.2.2 := nI_clamp (by omega)
  unfold z3
  refine mj_blk rfl ?_
  simp +decide only [mjs_0, mjs_1, mjs_2, mjs_3, mjs_ble, true_and, Bool.false_eq_true, if_false, if_true, Nat.reduceAdd, Nat.reduceSub, Nat.reduceLeDiff, false_implies, true_implies, not_false_eq_true, not_true_eq_false, and_true, mm_sh, hm, mjs_up_at, mjs_up_c, mjs_up_f, hK.2.2.2]
  refine mj_blk rfl ?_
  simp +decide only [mjs_0, mjs_1, mjs_2, mjs_3, mjs_ble, true_and, Bool.false_eq_true, if_false, if_true, Nat.reduceAdd, Nat.reduceSub, Nat.reduceLeDiff, false_implies, true_implies, not_false_eq_true, not_true_eq_false, and_true, mm_sh, hm, mjs_up_at, mjs_up_c, mjs_up_f, j22, hM.1, er, show (100000 : Int32) + nI M.2.2.2.2.2 = nI (100000 + M.2.2.2.2.2) from nI_add 100000 M.2.2.2.2.2]
  refine ⟨nI_in (by omega) (by decide), nI_in (by omega) (by decide), nI_in (by omega) (by decide), nI_in (by omega) (by decide), ?_⟩
  generalize hJ1 : mj_up (mj_up (mj_up (mj_up J 48 M.2.2.2.2.2 (nI n)) 49 M.2.2.2.2.2 (nI h0)) 50 M.2.2.2.2.2 (nI b)) 51 M.2.2.2.2.2 (nI M.2.2.2.1) = J1
  have o1 : ∀ c q, c ≠ 48 → c ≠ 49 → c ≠ 50 → c ≠ 51 → J1 c q = J c q := by
    intro c q c1 c2 c3 c4
    rw [← hJ1, mjs_up_c c4, mjs_up_c c3, mjs_up_c c2, mjs_up_c c1]
  have w48 : ∀ q, J1 48 q = if q = M.2.2.2.2.2 then nI n else J 48 q := by
    intro q
    rw [← hJ1, mjs_up_c (by decide), mjs_up_c (by decide), mjs_up_c (by decide)]
    by_cases e : q = M.2.2.2.2.2
    · rw [if_pos e, e, mjs_up_at]
    · rw [if_neg e, mjs_up_ne (Or.inr e)]
  have w49 : ∀ q, J1 49 q = if q = M.2.2.2.2.2 then nI h0 else J 49 q := by
    intro q
    rw [← hJ1, mjs_up_c (by decide), mjs_up_c (by decide)]
    by_cases e : q = M.2.2.2.2.2
    · rw [if_pos e, e, mjs_up_at]
    · rw [if_neg e, mjs_up_ne (Or.inr e), mjs_up_c (by decide)]
  have w50 : ∀ q, J1 50 q = if q = M.2.2.2.2.2 then nI b else J 50 q := by
    intro q
    rw [← hJ1, mjs_up_c (by decide)]
    by_cases e : q = M.2.2.2.2.2
    · rw [if_pos e, e, mjs_up_at]
    · rw [if_neg e, mjs_up_ne (Or.inr e), mjs_up_c (by decide), mjs_up_c (by decide)]
  have w51 : ∀ q, J1 51 q = if q = M.2.2.2.2.2 then nI M.2.2.2.1 else J 51 q := by
    intro q
    rw [← hJ1]
    by_cases e : q = M.2.2.2.2.2
    · rw [if_pos e, e, mjs_up_at]
    · rw [if_neg e, mjs_up_ne (Or.inr e), mjs_up_c (by decide), mjs_up_c (by decide), mjs_up_c (by decide)]
  clear hJ1
  refine r_128 (mm_W hM') (by rw [ert]; omega) (by rw [hba]; exact rl.2.2.2.1 hu2) (by rw [hba, ← ert]; exact hid (by rw [ert]; exact rl.2.2.2.1 hu2) (by rw [ert]; omega)) ((o1 36 17 (by decide) (by decide) (by decide) (by decide)).trans hS.1) hlv hg (fun J2 hs => ?_)
  rw [hba] at hs
  have j22' : J2 36 22 = nI M.2.2.2.2.2 := (hs.1 36 22 (by decide)).trans ((o1 36 22 (by decide) (by decide) (by decide) (by decide)).trans j22)
  simp +decide only [mjs_0, mjs_1, mjs_2, mjs_3, mjs_ble, true_and, Bool.false_eq_true, if_false, if_true, Nat.reduceAdd, Nat.reduceSub, Nat.reduceLeDiff, false_implies, true_implies, not_false_eq_true, not_true_eq_false, and_true, mm_sh, hm, mjs_up_at, mjs_up_c, mjs_up_f, j22', nI_1]
  refine mj_blk rfl ?_
  simp +decide only [mjs_0, mjs_1, mjs_2, mjs_3, mjs_ble, true_and, Bool.false_eq_true, if_false, if_true, Nat.reduceAdd, Nat.reduceSub, Nat.reduceLeDiff, false_implies, true_implies, not_false_eq_true, not_true_eq_false, and_true, mm_sh, hm, mjs_up_at, mjs_up_c, mjs_up_f]
  -- the state behind the rows
  have b1 : ∀ c q, c ≠ 36 → mj_up J1 36 22 (nI (M.2.2.2.2.2 + 1)) c q = J1 c q := fun c q hc => mjs_up_c hc
  have base : RR (mj_up J1 36 22 (nI (M.2.2.2.2.2 + 1))) (K, P, E, N, S, M', C, O, L) (mj_up J1 36 22 (nI (M.2.2.2.2.2 + 1))) := by
    have e3 : ∀ c q, mxm [48, 49, 50, 51] c = false → mj_up J1 36 22 (nI (M.2.2.2.2.2 + 1)) c q = mj_up J 36 22 (nI (M.2.2.2.2.2 + 1)) c q := by
      intro c q hc
      have ho := o1 c q (mxm_ne hc (by decide)) (mxm_ne hc (by decide)) (mxm_ne hc (by decide)) (mxm_ne hc (by decide))
      by_cases e : c = 36 ∧ q = 22
      · rw [e.1, e.2, mjs_up_at, mjs_up_at]
      · have e' : c ≠ 36 ∨ q ≠ 22 := by omega
        rw [mjs_up_ne e', mjs_up_ne e']
        exact ho
    have hmk : ∀ x y, mw M (J 48) (J 49) (J 50) (J 51) x y → mw M' (mj_up J1 36 22 (nI (M.2.2.2.2.2 + 1)) 48) (mj_up J1 36 22 (nI (M.2.2.2.2.2 + 1)) 49) (mj_up J1 36 22 (nI (M.2.2.2.2.2 + 1)) 50) (mj_up J1 36 22 (nI (M.2.2.2.2.2 + 1)) 51) x y := fun x y hw => mk_mw (gv_d hv).2.2.2.2.1 hE (fun q hq => ⟨by rw [b1 48 q (by decide), w48, if_neg (by omega)], by rw [b1 49 q (by decide), w49, if_neg (by omega)], by rw [b1 50 q (by decide), w50, if_neg (by omega)], by rw [b1 51 q (by decide), w51, if_neg (by omega)]⟩) hw
    have hM2 : rrM M' (mj_up J 36 22 (nI (M.2.2.2.2.2 + 1))) := by
      rcases hE with rfl | ⟨z, rfl⟩
      · exact ⟨hM.1, rfl, hM.2.2⟩
      · exact ⟨hM.1, rfl, hM.2.2⟩
    refine mx_on (RR (mj_up J1 36 22 (nI (M.2.2.2.2.2 + 1))) (K, P, E, N, S, M', C, O, L)) [48, 49, 50, 51] e3 ?_
    refine ⟨hK, hP, hE', hN, ⟨hS.1, hS.2.1, fun l c hl hc => ⟨(hS.2.2.1 l c hl hc).1, (hS.2.2.1 l c hl hc).2.1, hmk _ _ (hS.2.2.1 l c hl hc).2.2⟩, fun l i hl hi => hmk _ _ (hS.2.2.2.1 l i hl hi), hlv⟩, hM2, hC, hO, hL, fun c hc => ?_⟩
    funext q
    unfold mx
    cases hb : mxm [48, 49, 50, 51] c with
    | true => rfl
    | false => exact (e3 c q hb).symm
  have hs' : mr_set (mj_up J1 36 22 (nI (M.2.2.2.2.2 + 1))) (mj_up J2 36 22 (nI (M.2.2.2.2.2 + 1))) 45 1400 (mr_id (rb uu)) (if gl = 0 then S.2.2.1 else 0) (S.2.2.1 + 1) (nI (100000 + M.2.2.2.2.2)) := by
    refine ⟨fun c q hc => ?_, fun l l1 l2 => ?_, fun q hq' => ?_⟩
    · by_cases e : c = 36 ∧ q = 22
      · rw [e.1, e.2, mjs_up_at, mjs_up_at]
      · have e' : c ≠ 36 ∨ q ≠ 22 := by omega
        rw [mjs_up_ne e', mjs_up_ne e']
        exact hs.1 c q hc
    · rw [mjs_up_c (by decide)]
      exact hs.2.1 l l1 l2
    · rw [mjs_up_c (by decide), mjs_up_c (by decide)]
      exact hs.2.2 q hq'
  refine hq (mj_up J1 36 22 (nI (M.2.2.2.2.2 + 1))) _ (fun c hc => ?_) (fun s' => rr_128 base hva hu hu2 (hmw _ _ _ _ (by rw [b1 48 _ (by decide), w48, if_pos rfl]) (by rw [b1 49 _ (by decide), w49, if_pos rfl]) (by rw [b1 50 _ (by decide), w50, if_pos rfl]) (by rw [b1 51 _ (by decide), w51, if_pos rfl])) hs' hg s')
  rw [← hZ c (Or.inl hc)]
  funext q
  rw [b1 c q (by omega), o1 c q (by omega) (by omega) (by omega) (by omega)]
/-- define -/
theorem p_66 (hR : mj_Rt mp_R Rf) (hM' : mj_Rt mm_R Rf) (hX : XD X Rf vb kc kr m) (h12 : 12 ≤ kr) (hxf : xf = 0 ∨ xf = 1) (hg : gl = 0 ∨ gl = 1) {D : Nat} (hD : kc + 5 ≤ D) (hn : K.2.2 + m = 40) (hr' : nc + 1 ≤ X.2.2.1 ∧ ns + 6 ≤ X.2.2.2) (hv : gv (K, P, E, N, S, M, C, O, L)) (hw : gw K S) (hs : S.2.2.2 + 1 ≤ K.1) (hrm : M.2.2.2.2.2 + 1 ≤ K.1) (hst : M.2.1 M.2.2.2.2.1 = M.2.2.2.1) (hp : P.length ≤ 10000) (h : RC fb vb (K, P, E, N, S, M, C, O, L) I)
    (hQ1 : ∀ fb' K' P' N' S' M' C' L' I', gv (K', P', E, N', S', M', C', O, L') → RC fb' vb (K', P', E, N', S', M', C', O, L') I' → P'.length ≤ 10000 → K.1 ≤ K'.1 ∧ K'.2 = K.2 → gw K' S' → S'.2.1 = S.2.1 ∧ S'.2.2.1 = S.2.2.1 → M'.2.1 M'.2.2.2.2.1 = M'.2.2.2.1 ∧ M'.2.2.2.2.2 ≤ K'.1 → RXw X Rf (kr + 6) 177 [.ref 36, .int (nI xf), .int (nI gl)] (K, P, E, N, S, M, C, O, L) none (K', P', E, N', S', M', C', O, L') → Q (.inl none) (sh59, I', Lg, Rf, nc, ns))
    (hQ3 : ∀ fb g' I', RCf fb vb g' I' → RY X Rf (kr + 6) 177 [.ref 36, .int (nI xf), .int (nI gl)] (K, P, E, N, S, M, C, O, L) na none g' → Q (.inr 500) (sh59, I', Lg, Rf, nc + 1, ns + 6)) :
    mj_call X mj_P (mj_bi X) D 66 [.ref 34, .int (nI xf), .int (nI gl)] (sh59, I, Lg, Rf, nc, ns) Q := by
  have hr := mc_rf hR
  have hm := mm_rf hM'
  obtain ⟨d, rfl⟩ : ∃ d, D = d + 5 := ⟨D - 5, by omega⟩
  have qF : ∀ fb g' I', RCf fb vb g' I' → RMf X Rf mb_177 (kr + 5) 0 [some (.ref 36), some (.int (nI xf)), some (.int (nI gl)), none, none, none, none, none, none, none] [] (K, P, E, N, S, M, C, O, L) na none g' → Q (.inr 500) (sh59, I', Lg, Rf, nc + 1, ns + 6) := fun fb g' I' a1 a2 => hQ3 fb g' I' a1 (ry_in (z := 10) (by decide) rfl rfl rfl a2)
  refine mj_enter (z := (10, [], mb_66)) (by decide) rfl rfl ?_
  refine mj_blk rfl ?_
  simp +decide only [mjs_0, mjs_1, mjs_2, mjs_3, mjs_ble, true_and, Bool.false_eq_true, if_false, if_true, Nat.reduceAdd, Nat.reduceSub, Nat.reduceLeDiff, false_implies, true_implies, not_false_eq_true, not_true_eq_false, and_true, mc_sh, hr, mjs_up_at, mjs_up_c, mjs_up_f]
  refine p_65 hR hM' hr' hv hp h (fun P1 N1 L1 I1 uu a1 a2 a3 a4 a5 a6 a7 => ?_) (fun g' I' a1 a2 => ?_)
  · simp +decide only [mjs_0, mjs_1, mjs_2, mjs_3, mjs_ble, true_and, Bool.false_eq_true, if_false, if_true, Nat.reduceAdd, Nat.reduceSub, Nat.reduceLeDiff, false_implies, true_implies, not_false_eq_true, not_true_eq_false, and_true, mc_sh, hr, mjs_up_at, mjs_up_c, mjs_up_f]
    refine p_67 (xf := xf) (gl := gl) (u := nI (rt uu)) (h0 := M.2.2.2.1) (kr := kr) (g0 := (K, P, E, N, S, M, C, O, L)) (lv0 := [some (.ref 36), some (.int (nI xf)), some (.int (nI gl)), none, none, none, none, none, none, none]) hR hM' h12 hr' a1 hst (by omega) a2 (fun t g' b1 => ?_) (fun g' b1 => ?_) (fun P2 N2 M1 L2 I2 n b1 b2 b3 b4 b5 b6 b7 b8 => ?_) (fun g' I' b1 b2 => ?_)
    · intro H Lg d nc ns J Q hJ hA hq
      obtain ⟨D, hD, hDk⟩ : ∃ D, d + (kr + 5) = D + 5 ∧ kr ≤ D := ⟨d + kr, by omega, by omega⟩
      rw [hD]
      try rw [hD] at hq
      unfold z6 at hq
      refine mj_blk rfl ?_
      simp +decide only [mjs_0, mjs_1, mjs_2, mjs_3, mjs_ble, true_and, Bool.false_eq_true, if_false, if_true, Nat.reduceAdd, Nat.reduceSub, Nat.reduceLeDiff, false_implies, true_implies, not_false_eq_true, not_true_eq_false, and_true, mm_sh, hm, mjs_up_at, mjs_up_c, mjs_up_f]
      refine rx_at a7 (by omega) hJ trivial (fun H1 J1 c1 c2 _ => ?_)
      simp +decide only [mjs_0, mjs_1, mjs_2, mjs_3, mjs_ble, true_and, Bool.false_eq_true, if_false, if_true, Nat.reduceAdd, Nat.reduceSub, Nat.reduceLeDiff, false_implies, true_implies, not_false_eq_true, not_true_eq_false, and_true, mm_sh, hm, mjs_up_at, mjs_up_c, mjs_up_f, (rr_d c2).2.2.2.2.2.1.1]
      refine rs_at b1 (by omega) c2 (fun J2 c3 => ?_)
      simp +decide only [mjs_0, mjs_1, mjs_2, mjs_3, mjs_ble, true_and, Bool.false_eq_true, if_false, if_true, Nat.reduceAdd, Nat.reduceSub, Nat.reduceLeDiff, false_implies, true_implies, not_false_eq_true, not_true_eq_false, and_true, mm_sh, hm, mjs_up_at, mjs_up_c, mjs_up_f]
      exact mj_nv (hq H1 J2 c1 c3 trivial)
    · intro H Lg d nc ns J Q hJ hA hq
      obtain ⟨D, hD, hDk⟩ : ∃ D, d + (kr + 5) = D + 5 ∧ kr ≤ D := ⟨d + kr, by omega, by omega⟩
      rw [hD]
      try rw [hD] at hq
      refine mj_blk rfl ?_
      simp +decide only [mjs_0, mjs_1, mjs_2, mjs_3, mjs_ble, true_and, Bool.false_eq_true, if_false, if_true, Nat.reduceAdd, Nat.reduceSub, Nat.reduceLeDiff, false_implies, true_implies, not_false_eq_true, not_true_eq_false, and_true, mm_sh, hm, mjs_up_at, mjs_up_c, mjs_up_f]
      refine rx_at a7 (by omega) hJ trivial (fun H1 J1 c1 c2 _ => ?_)
      simp +decide only [mjs_0, mjs_1, mjs_2, mjs_3, mjs_ble, true_and, Bool.false_eq_true, if_false, if_true, Nat.reduceAdd, Nat.reduceSub, Nat.reduceLeDiff, false_implies, true_implies, not_false_eq_true, not_true_eq_false, and_true, mm_sh, hm, mjs_up_at, mjs_up_c, mjs_up_f, (rr_d c2).2.2.2.2.2.1.1]
      refine rf_at b1 (by omega) c2 (fun J2 c3 => ?_)
      simp +decide only [mjs_0, mjs_1, mjs_2, mjs_3, mjs_ble, true_and, Bool.false_eq_true, if_false, if_true, Nat.reduceAdd, Nat.reduceSub, Nat.reduceLeDiff, false_implies, true_implies, not_false_eq_true, not_true_eq_false, and_true, mm_sh, hm, mjs_up_at, mjs_up_c, mjs_up_f]
      exact mj_nv (f_177a (xf := xf) (gl := gl) (u := nI (rt uu)) (h0 := M.2.2.2.1) (n := 0) (x := -1) hM' c3 (hq J2 (rd_hx c3 c1)))
    · have hx2 := xs_tr a4 b4
      have hn9 : n ≤ 9 := by
        rw [← b7]
        exact b6.2.1
      simp +decide only [mjs_0, mjs_1, mjs_2, mjs_3, mjs_ble, true_and, Bool.false_eq_true, if_false, if_true, Nat.reduceAdd, Nat.reduceSub, Nat.reduceLeDiff, false_implies, true_implies, not_false_eq_true, not_true_eq_false, and_true, mc_sh, hr, mjs_up_at, mjs_up_c, mjs_up_f]
      refine cq_51 hR b1 b2 (fun I3 c1 => ?_)
      simp +decide only [mjs_0, mjs_1, mjs_2, mjs_3, mjs_ble, true_and, Bool.false_eq_true, if_false, if_true, Nat.reduceAdd, Nat.reduceSub, Nat.reduceLeDiff, false_implies, true_implies, not_false_eq_true, not_true_eq_false, and_true, mc_sh, hr, mjs_up_at, mjs_up_c, mjs_up_f]
      refine mj_nv (p_body (g0 := (K, P, E, N, S, M, C, O, L)) (b := M1.2.2.2.1) (gl := gl) (u := nI (rt uu)) (h0 := M.2.2.2.1) (lv0 := [some (.ref 36), some (.int (nI xf)), some (.int (nI gl)), none, none, none, none, none, none, none]) (sl := nI (cm_sl uu)) hR hM' hX h12 hxf (by omega) hn hr' hn9 (gv_bd b1) hw b3 rfl c1 (rm_tr b8 ?_) (fun fb3 K3 P3 N3 S3 M3 C3 L3 I4 d1 d2 d3 d4 d5 d6 d7 => ?_) qF)
      · intro H Lg d nc ns J Q hJ hA hq
        obtain ⟨D, hD, hDk⟩ : ∃ D, d + (kr + 5) = D + 5 ∧ kr ≤ D := ⟨d + kr, by omega, by omega⟩
        rw [hD]
        try rw [hD] at hq
        unfold z5
        unfold z8 at hq
        refine mj_blk rfl ?_
        simp +decide only [mjs_0, mjs_1, mjs_2, mjs_3, mjs_ble, true_and, Bool.false_eq_true, if_false, if_true, Nat.reduceAdd, Nat.reduceSub, Nat.reduceLeDiff, false_implies, true_implies, not_false_eq_true, not_true_eq_false, and_true, mm_sh, hm, mjs_up_at, mjs_up_c, mjs_up_f, (rr_d hJ).2.2.2.2.2.1.1]
        exact mj_nv (hq H J hx_rf (rr_bd b1 hJ) trivial)
      · have hx3 := xs_tr hx2 d4
        have k53 := (rc_d d2).1.2.2.2
        have hs3 := sx_s hx3 hs
        have hk : N3.2.2 ≤ 1036 := (gv_d d1).2.2.1.2.1
        have hu : tb N3.2.2 uu := by
          have := b4.1.1
          have := d4.1.1
          unfold tb at a5 ⊢
          omega
        have hsl : cm_sl uu < 1804 := cm_sl_lt d1 (Or.inl hu)
        have hsl2 : 512 ≤ cm_sl uu ∧ cm_sl uu < 768 + N3.2.2 := by
          unfold tb at hu
          unfold cm_sl
          split <;> omega
        -- the macros: M, with the parameters M1, with the body M3
        obtain ⟨⟨q1, q2, q3, q4, q5⟩, q6⟩ := d5
        obtain ⟨p1, p2, p3, p4, p5⟩ := b5
        have em : M3.2.2.2.2 = M.2.2.2.2 := q1.trans p1
        have em1 : M3.2.2.2.2.1 = M.2.2.2.2.1 := by rw [em]
        have em2 : M3.2.2.2.2.2 = M.2.2.2.2.2 := by rw [em]
        have e11 : M1.2.2.2.2.1 = M.2.2.2.2.1 := by rw [p1]
        have est : M3.2.1 M3.2.2.2.2.1 = M.2.2.2.1 := by
          rw [em1]
          refine (q2 M.2.2.2.2.1 (by show M.2.2.2.2.1 ≤ M1.2.2.2.2.1; omega)).trans ?_
          exact (p2 _ (Nat.le_refl _)).trans hst
        have ebd : M3.2.2.1 M3.2.2.2.2.1 = M1.2.2.2.1 := by
          rw [q6, em1, ← e11]
          exact ud_at
        have q4' : ∀ j, j < M1.2.2.2.1 → M3.1 j = M1.1 j := q4
        have q5' : M1.2.2.2.1 ≤ M3.2.2.2.1 := q5
        have enp : ∀ i, M.2.2.2.1 + i ≤ M1.2.2.2.1 → np M3.1 M.2.2.2.1 i = np M1.1 M.2.2.2.1 i := fun i hi => np_eq (fun j j1 j2 => q4' j (by omega))
        have enn : np M3.1 M.2.2.2.1 (M1.2.2.2.1 - M.2.2.2.1) = n := (enp _ (by omega)).trans b7
        have e4 : ∀ a, (2 : Int32) <<< (16 &&& 31) + nI a = nI (131072 + a) := fun a => by
          rw [show (2 : Int32) <<< (16 &&& 31) = nI 131072 from rfl, nI_add]
        have hrm3 : M3.2.2.2.2.2 + 1 ≤ 30001 := by
          have := hx3.2.1.1
          omega
        have hmade := (gv_d d1).2.2.2.2.1.1.1
        -- behind make
        have fin : ∀ (a : Nat) (M' : sgM) (I5 : Nat → Nat → Int32), (M' = mkE M3 ∨ ∃ z, M' = mkN M3 z) → a < M'.2.2.2.2.1 → M'.2.1 M'.2.2.2.2.1 = M'.2.2.2.1 → M'.2.2.2.2.2 = M3.2.2.2.2.2 + 1 → gv (K3, P3, E, N3, S3, M', C3, O, L3) → RC fb3 vb (K3, P3, E, N3, S3, M', C3, O, L3) I5 → (∀ pa hd bd en : Nat → Int32, pa M3.2.2.2.2.2 = nI n → hd M3.2.2.2.2.2 = nI M.2.2.2.1 → bd M3.2.2.2.2.2 = nI M1.2.2.2.1 → en M3.2.2.2.2.2 = nI M3.2.2.2.1 → mw M' pa hd bd en (nI (131072 + a)) (nI (100000 + M3.2.2.2.2.2))) → ∀ (Q' : mj_Q), (∀ I6, Q (.inl none) (sh59, I6, Lg, Rf, nc, ns) → Q' (.inl none) (sh59, I6, Lg, Rf, nc, ns)) → mj_call X mj_P (mj_bi X) (d + 4) 98 [.ref 9, .int (nI (cm_sl uu)), .int (nI (131072 + a)), .int (nI gl)] (sh59, I5, Lg, Rf, nc, ns) Q' := by
          intro a M' I5 f1 f2 f3 f4 f5 f6 f7 Q' hQ'
          refine cq_98 hR f6 (by omega) hsl hg (fun I6 s' f8 f9 => hQ' I6 ?_)
          obtain ⟨r1, r2⟩ := aq_set (x := cm_sl uu) (v := nI (131072 + a)) (gl := gl) hx3 hw hs f8 (fun q => absurd q (by omega))
          refine hQ1 fb3 K3 P3 N3 _ M' C3 L3 I6 (gv_set f5 (fun q => absurd q (by omega)) (fun _ => ⟨hsl2.2, Or.inr (Or.inr (Or.inl ⟨a, f2, rfl⟩))⟩)) f9 (by omega) hx3.2.1 r1 r2 ⟨f3, by have := hx3.2.1.1; omega⟩ ?_
          intro H Lg d nc ns J Q hJ hq
          obtain ⟨D, hD, hDk⟩ : ∃ D, d + (kr + 6) = D + 6 ∧ kr ≤ D := ⟨d + kr, by omega, by omega⟩
          rw [hD]
          refine mj_enter (z := (10, [], mb_177)) (by decide) rfl rfl ?_
          have := d7 H Lg (D - kr) nc ns J Q hJ trivial (fun H1 J1 c1 c2 _ => by
            rw [show D - kr + (kr + 5) = D + 5 by omega]
            exact r_334 hM' d1 hu a6 c2 hg hrm3 f1 f5 f7 (fun H2 J2 g1 g2 => hq H2 J2 (fun c hc => (g1 c hc).trans (c1 c (Or.inl hc))) (g2 s')))
          rw [show D - kr + (kr + 5) = D + 5 by omega] at this
          exact this
        refine mj_blk rfl ?_
        simp +decide only [mjs_0, mjs_1, mjs_2, mjs_3, mjs_ble, true_and, Bool.false_eq_true, if_false, if_true, Nat.reduceAdd, Nat.reduceSub, Nat.reduceLeDiff, false_implies, true_implies, not_false_eq_true, not_true_eq_false, and_true, mc_sh, hr, mjs_up_at, mjs_up_c, mjs_up_f]
        refine cq_52 hR d1 d2 (fun hem c3 => ?_) (fun hne I5 z c3 => ?_)
        · rw [est] at hem
          have hn0 : n = 0 := by
            rw [← b7, show M1.2.2.2.1 - M.2.2.2.1 = 0 by omega]
            rfl
          simp +decide only [mjs_0, mjs_1, mjs_2, mjs_3, mjs_ble, true_and, Bool.false_eq_true, if_false, if_true, Nat.reduceAdd, Nat.reduceSub, Nat.reduceLeDiff, false_implies, true_implies, not_false_eq_true, not_true_eq_false, and_true, mc_sh, hr, mjs_up_at, mjs_up_c, mjs_up_f]
          refine c_92 ?_
          rw [e4]
          simp +decide only [mjs_0, mjs_1, mjs_2, mjs_3, mjs_ble, true_and, Bool.false_eq_true, if_false, if_true, Nat.reduceAdd, Nat.reduceSub, Nat.reduceLeDiff, false_implies, true_implies, not_false_eq_true, not_true_eq_false, and_true, mc_sh, hr, mjs_up_at, mjs_up_c, mjs_up_f]
          refine fin 0 (mkE M3) I4 (Or.inl rfl) (show 0 < M3.2.2.2.2.1 by omega) (est.trans hem.symm) rfl (gv_mkE d1 hrm3) c3 (fun pa hd bd en g1 g2 g3 g4 => Or.inr (Or.inr (Or.inl ⟨0, M3.2.2.2.2.2, rfl, rfl, ⟨show 0 < M3.2.2.2.2.1 by omega, Nat.lt_succ_self _, fun q => absurd rfl q, fun _ => ⟨by rw [g1, hn0]; rfl, M.2.2.2.1, (gv_d hv).2.2.2.2.1.2.2.1.2.1, g2, ?_, ?_⟩⟩⟩))) _ (fun I6 hq => ?_)
          · rw [g3]
            exact congrArg nI (by omega)
          · rw [g4, hem]
          · simp +decide only [mjs_0, mjs_1, mjs_2, mjs_3, mjs_ble, true_and, Bool.false_eq_true, if_false, if_true, Nat.reduceAdd, Nat.reduceSub, Nat.reduceLeDiff, false_implies, true_implies, not_false_eq_true, not_true_eq_false, and_true]
            exact hq
        · rw [est] at hne
          simp +decide only [mjs_0, mjs_1, mjs_2, mjs_3, mjs_ble, true_and, Bool.false_eq_true, if_false, if_true, Nat.reduceAdd, Nat.reduceSub, Nat.reduceLeDiff, false_implies, true_implies, not_false_eq_true, not_true_eq_false, and_true, mc_sh, hr, mjs_up_at, mjs_up_c, mjs_up_f]
          refine c_92 ?_
          rw [e4]
          simp +decide only [mjs_0, mjs_1, mjs_2, mjs_3, mjs_ble, true_and, Bool.false_eq_true, if_false, if_true, Nat.reduceAdd, Nat.reduceSub, Nat.reduceLeDiff, false_implies, true_implies, not_false_eq_true, not_true_eq_false, and_true, mc_sh, hr, mjs_up_at, mjs_up_c, mjs_up_f]
          have gvn : gv (K3, P3, E, N3, S3, mkN M3 z, C3, O, L3) := by
            refine gv_mkN d1 hrm3 (by rw [est]; exact hne) (by rw [est, ebd]; exact p5) (by rw [ebd]; exact q5') ?_ ?_ ?_ ?_
            · rw [est, ebd]
              intro i i1 i2 i3
              rw [q4' i i2] at i3 ⊢
              rw [enp _ (by omega)]
              exact b6.1 i i1 i2 i3
            · rw [est, ebd, enn]
              exact hn9
            · rw [est, ebd, enn]
              exact d6
            · rw [est, ebd]
              intro i i1 i2
              rw [q4' i i2]
              exact b6.2.2 i i1 i2
          have k1 : (mkN M3 z).2.1 M3.2.2.2.2.1 = M.2.2.2.1 := (ud_ne (by omega)).trans est
          have k2 : (mkN M3 z).2.2.1 M3.2.2.2.2.1 = M1.2.2.2.1 := (ud_ne (by omega)).trans ebd
          have k3 : (mkN M3 z).2.1 (M3.2.2.2.2.1 + 1) = M3.2.2.2.1 := ud_at
          refine fin M3.2.2.2.2.1 (mkN M3 z) I5 (Or.inr ⟨z, rfl⟩) (Nat.lt_succ_self _) k3 rfl gvn c3 (fun pa hd bd en g1 g2 g3 g4 => Or.inr (Or.inr (Or.inl ⟨M3.2.2.2.2.1, M3.2.2.2.2.2, rfl, rfl, ⟨Nat.lt_succ_self _, Nat.lt_succ_self _, fun _ => ?_, fun q => absurd q (by omega)⟩⟩))) _ (fun I6 hq => ?_)
          · rw [k1, k2, k3]
            refine ⟨g2, g3, g4, ?_⟩
            rw [g1]
            exact congrArg nI enn.symm
          · simp +decide only [mjs_0, mjs_1, mjs_2, mjs_3, mjs_ble, true_and, Bool.false_eq_true, if_false, if_true, Nat.reduceAdd, Nat.reduceSub, Nat.reduceLeDiff, false_implies, true_implies, not_false_eq_true, not_true_eq_false, and_true]
            exact hq
    · simp +decide only [mjs_0, mjs_1, mjs_2, mjs_3, mjs_ble, true_and, Bool.false_eq_true, if_false, if_true, Nat.reduceAdd, Nat.reduceSub, Nat.reduceLeDiff, false_implies, true_implies, not_false_eq_true, not_true_eq_false, and_true]
      exact qF fb g' I' b1 b2
  · simp +decide only [mjs_0, mjs_1, mjs_2, mjs_3, mjs_ble, true_and, Bool.false_eq_true, if_false, if_true, Nat.reduceAdd, Nat.reduceSub, Nat.reduceLeDiff, false_implies, true_implies, not_false_eq_true, not_true_eq_false, and_true]
    refine qF fb g' I' a1 ?_
    intro H Lg d nc ns J Q hJ hA hq
    obtain ⟨D, hD, hDk⟩ : ∃ D, d + (kr + 5) = D + 5 ∧ kr ≤ D := ⟨d + kr, by omega, by omega⟩
    rw [hD]
    try rw [hD] at hq
    refine mj_blk rfl ?_
    simp +decide only [mjs_0, mjs_1, mjs_2, mjs_3, mjs_ble, true_and, Bool.false_eq_true, if_false, if_true, Nat.reduceAdd, Nat.reduceSub, Nat.reduceLeDiff, false_implies, true_implies, not_false_eq_true, not_true_eq_false, and_true, mm_sh, hm, mjs_up_at, mjs_up_c, mjs_up_f]
    refine ry_at a2 (by omega) hJ trivial (fun J1 c1 => ?_)
    obtain ⟨w, hw27⟩ := nI_ex (J1 36 27)
    simp +decide only [mjs_0, mjs_1, mjs_2, mjs_3, mjs_ble, true_and, Bool.false_eq_true, if_false, if_true, Nat.reduceAdd, Nat.reduceSub, Nat.reduceLeDiff, false_implies, true_implies, not_false_eq_true, not_true_eq_false, and_true, mm_sh, hm, mjs_up_at, mjs_up_c, mjs_up_f, hw27]
    refine f_117 s59_36 (rd_ne c1) (rd_nle c1) ?_
    simp +decide only [mjs_0, mjs_1, mjs_2, mjs_3, mjs_ble, true_and, Bool.false_eq_true, if_false, if_true, Nat.reduceAdd, Nat.reduceSub, Nat.reduceLeDiff, false_implies, true_implies, not_false_eq_true, not_true_eq_false, and_true, mm_sh, hm, mjs_up_at, mjs_up_c, mjs_up_f]
    exact mj_nv (f_177a (xf := xf) (gl := gl) (u := 65536) (h0 := w) (n := 0) (x := -1) hM' c1 (hq J1 c1))
end MJDF
