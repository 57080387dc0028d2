/-! A CONDITION, in both -/
section MJCN
variable {X : mj_X} {d nc ns : Nat} {Q : mj_Q} {I I' J J' H : Nat → Nat → Int32} {Lg : Nat → Nat → Int64} {Rf : Nat → Nat → Option Nat} {fb fb' : Nat → Nat → Int32} {vb : Nat → Int32} {K K' K'' : Nat × Nat × Nat} {P P' P'' : List Nat} {E : sgE} {N N' N'' : sgN} {S S' S'' : sgS} {M : sgM} {C C' C'' : sgC} {O : sgO} {L L' L'' : sgL} {t u n kc kr mine cs j : Nat} {x : Int32}
def C1 (C : sgC) (cs : Nat) : sgC := (C.1 + 1, ud C.2.1 C.1 0, ud C.2.2 C.1 cs)
def C2 (C : sgC) (j : Nat) : sgC := (C.1, ud C.2.1 j 1, C.2.2)
theorem gvC_1 (h : gvC C) (h1 : C.1 < 100) (hcs : cs ≤ 1) : gvC (C1 C cs) := by
  refine ⟨h1, fun i hi => ?_⟩
  have hi' : i < C.1 + 1 := hi
  by_cases e : i = C.1
  · show ud C.2.1 C.1 0 i ≤ 2 ∧ ud C.2.2 C.1 cs i ≤ 1
    rw [e, ud_at, ud_at]
    omega
  · show ud C.2.1 C.1 0 i ≤ 2 ∧ ud C.2.2 C.1 cs i ≤ 1
    rw [ud_ne e, ud_ne e]
    exact h.2 i (by omega)
theorem gvC_2 (h : gvC C) : gvC (C2 C j) := by
  refine ⟨h.1, fun i hi => ?_⟩
  show ud C.2.1 j 1 i ≤ 2 ∧ C.2.2 i ≤ 1
  by_cases e : i = j
  · rw [e, ud_at]
    exact ⟨by decide, (h.2 j (by rw [← e]; exact hi)).2⟩
  · rw [ud_ne e]
    exact h.2 i hi
theorem rc_C1 (h : RC fb vb (K, P, E, N, S, M, C, O, L) I) : RC fb vb (K, P, E, N, S, M, C1 C cs, O, L) (mj_up (mj_up (mj_up I 26 C.1 0) 27 C.1 (nI cs)) 25 2 (nI (C.1 + 1))) := by
  have hC := (rc_d h).2.2.2.2.2.2.1
  refine rc_C h (fun b q b1 b2 b3 => by rw [mjs_up_c b1, mjs_up_c b3, mjs_up_c b2]) (fun q hq => by rw [mjs_up_f hq, mjs_up_c (by decide), mjs_up_c (by decide)]) ⟨rfl, fun i hi => ?_⟩
  have hi' : i < C.1 + 1 := hi
  refine ⟨?_, ?_⟩
  · show mj_up I 26 C.1 0 26 i = nI (ud C.2.1 C.1 0 i)
    by_cases e : i = C.1
    · rw [e, mjs_up_at, ud_at]
      rfl
    · rw [mjs_up_f e, ud_ne e]
      exact (hC.2 i (by omega)).1
  · show mj_up (mj_up I 26 C.1 0) 27 C.1 (nI cs) 27 i = nI (ud C.2.2 C.1 cs i)
    by_cases e : i = C.1
    · rw [e, mjs_up_at, ud_at]
    · rw [mjs_up_f e, mjs_up_c (by decide), ud_ne e]
      exact (hC.2 i (by omega)).2
theorem rr_C1 (h : RR H (K, P, E, N, S, M, C, O, L) J) : RR H (K, P, E, N, S, M, C1 C cs, O, L) (mj_up (mj_up (mj_up J 56 C.1 (nI cs)) 57 C.1 0) 36 33 (nI (C.1 + 1))) := by
  have hC := (rr_d h).2.2.2.2.2.2.1
  refine rr_C h (fun b q b1 b2 b3 => by rw [mjs_up_c b1, mjs_up_c b3, mjs_up_c b2]) (fun q hq => by rw [mjs_up_f hq, mjs_up_c (by decide), mjs_up_c (by decide)]) ⟨rfl, fun i hi => ?_⟩
  have hi' : i < C.1 + 1 := hi
  refine ⟨?_, ?_⟩
  · show mj_up (mj_up J 56 C.1 (nI cs)) 57 C.1 0 57 i = nI (ud C.2.1 C.1 0 i)
    by_cases e : i = C.1
    · rw [e, mjs_up_at, ud_at]
      rfl
    · rw [mjs_up_f e, mjs_up_c (by decide), ud_ne e]
      exact (hC.2 i (by omega)).1
  · show mj_up J 56 C.1 (nI cs) 56 i = nI (ud C.2.2 C.1 cs i)
    by_cases e : i = C.1
    · rw [e, mjs_up_at, ud_at]
    · rw [mjs_up_f e, ud_ne e]
      exact (hC.2 i (by omega)).2
theorem cq_18 (hR : mj_Rt mp_R Rf) (hv : gv (K, P, E, N, S, M, C, O, L)) (h : RC fb vb (K, P, E, N, S, M, C, O, L) I) (hr' : nc + 1 ≤ X.2.2.1 ∧ ns + 6 ≤ X.2.2.2) (hcs : cs = 0 ∨ cs = 1) (hQ1 : C.1 < 100 → ∀ I', RC fb vb (K, P, E, N, S, M, C1 C cs, O, L) I' → Q (.inl (some (.int (nI C.1)))) (sh59, I', Lg, Rf, nc, ns)) (hQ0 : C.1 = 100 → ∀ I', RCf fb vb (K, P, E, N, S, M, C, O, L) I' → Q (.inr 500) (sh59, I', Lg, Rf, nc + 1, ns + 6)) : mj_call X mj_P (mj_bi X) (d + 2) 18 [.ref 25, .int (nI cs)] (sh59, I, Lg, Rf, nc, ns) Q := by
  have hr := mc_rf hR
  have i2 : I 25 2 = nI C.1 := (rc_d h).2.2.2.2.2.2.1.1
  have hc100 := (gv_d hv).2.2.2.2.2.1.1
  have e1 : (nI C.1).toNatClampNeg = C.1 := nI_clamp (by omega)
  have en : vp_nar .boolean (nI cs) = nI cs := by
    rcases hcs with rfl | rfl <;> decide
  refine mj_enter (z := (2, [], mb_18)) (by decide) rfl rfl ?_
  refine mj_blk rfl ?_
  simp +decide only [mjs_0, mjs_1, mjs_2, mjs_3, mjs_ble, true_and, Bool.false_eq_true, if_false, if_true, Nat.reduceAdd, Nat.reduceSub, Nat.reduceLeDiff, false_implies, true_implies, not_false_eq_true, not_true_eq_false, and_true, mc_sh, hr, mjs_up_at, mjs_up_c, mjs_up_f, i2]
  by_cases e : C.1 < 100
  · refine ⟨fun _ => mj_blk rfl ?_, fun q => absurd (nI_lt (a := C.1) (b := 100) e (by decide)) q⟩
    simp +decide only [mjs_0, mjs_1, mjs_2, mjs_3, mjs_ble, true_and, Bool.false_eq_true, if_false, if_true, Nat.reduceAdd, Nat.reduceSub, Nat.reduceLeDiff, false_implies, true_implies, not_false_eq_true, not_true_eq_false, and_true, mc_sh, hr, mjs_up_at, mjs_up_c, mjs_up_f, i2, e1, en, nI_1, nI_pred]
    refine ⟨nI_in (by omega) (by decide), nI_in (by omega) (by decide), ?_⟩
    exact hQ1 e _ (rc_C1 h)
  · refine ⟨fun q => absurd q (nI_nlt (a := C.1) (b := 100) (by omega) (by omega)), fun _ => mj_blk rfl ?_⟩
    simp +decide only [mjs_0, mjs_1, mjs_2, mjs_3, mjs_ble, true_and, Bool.false_eq_true, if_false, if_true, Nat.reduceAdd, Nat.reduceSub, Nat.reduceLeDiff, false_implies, true_implies, not_false_eq_true, not_true_eq_false, and_true, mc_sh, hr, mjs_up_at, mjs_up_c, mjs_up_f]
    refine c_80 s59_1 hr' ?_
    simp +decide only [mjs_0, mjs_1, mjs_2, mjs_3, mjs_ble, true_and, Bool.false_eq_true, if_false, if_true, Nat.reduceAdd, Nat.reduceSub, Nat.reduceLeDiff, false_implies, true_implies, not_false_eq_true, not_true_eq_false, and_true]
    exact hQ0 (by omega) _ (rc_f hv h)
/-- decide, and drop -/
theorem p_19 (hR : mj_Rt mp_R Rf) (hM' : mj_Rt mm_R Rf) (hr' : nc + 1 ≤ X.2.2.1 ∧ ns + 6 ≤ X.2.2.2) (hj : j < C.1) (hx : x ≠ -2147483648) (hv : gv (K, P, E, N, S, M, C, O, L)) (h : RC fb vb (K, P, E, N, S, M, C, O, L) I) (hp : P.length ≤ 10000)
    (hQ0 : x = 0 → ∀ I', RC fb vb (K, P, E, N, S, M, C2 C j, O, L) I' → Q (.inl none) (sh59, I', Lg, Rf, nc, ns))
    (hQ1 : x ≠ 0 → ∀ P' N' C' L' I', gv (K, P', E, N', S, M, C', O, L') → RC fb vb (K, P', E, N', S, M, C', O, L') I' → ge P N L P' N' L' → (C' = (j, (C2 C j).2) ∨ C' = (j + 1, ud (C2 C j).2.1 j 2, (C2 C j).2.2) ∨ C' = (j + 1, (C2 C j).2)) → RS X Rf 7 152 [.ref 36, .int (nI j), .int x] (K, P, E, N, S, M, C2 C j, O, L) none (K, P', E, N', S, M, C', O, L') → Q (.inl none) (sh59, I', Lg, Rf, nc, ns))
    (hQ3 : x ≠ 0 → ∀ g' I', RCf fb vb g' I' → RF X Rf 7 152 [.ref 36, .int (nI j), .int x] (K, P, E, N, S, M, C2 C j, O, L) none g' → Q (.inr 500) (sh59, I', Lg, Rf, nc + 1, ns + 6)) :
    mj_call X mj_P (mj_bi X) (d + 4) 19 [.ref 25, .int (nI j), .int x] (sh59, I, Lg, Rf, nc, ns) Q := by
  have hr := mc_rf hR
  have hm := mm_rf hM'
  have hc100 := (gv_d hv).2.2.2.2.2.1.1
  have ej : (nI j).toNatClampNeg = j := nI_clamp (by omega)
  have h2 : RC fb vb (K, P, E, N, S, M, C2 C j, O, L) (mj_up I 26 j 1) := rc_Cs (s := 1) h
  have hv2 : gv (K, P, E, N, S, M, C2 C j, O, L) := gv_C hv (gvC_2 (gv_d hv).2.2.2.2.2.1)
  have i2 : I 25 2 = nI C.1 := (rc_d h).2.2.2.2.2.2.1.1
  have i2' : mj_up I 26 j 1 25 2 = nI C.1 := (rc_d h2).2.2.2.2.2.2.1.1
  have ew : nI C.1 - 1 - nI j = nI (C.1 - 1 - j) := by
    rw [show C.1 = (C.1 - 1) + 1 by omega, nI_pred, pk_sub (by omega), Nat.add_sub_cancel]
  have htl := tl_le (gv_d hv).2.2.2.2.2.2.2
  refine mj_enter (z := (7, [], mb_19)) (by decide) rfl rfl ?_
  refine mj_blk rfl ?_
  simp +decide only [mjs_0, mjs_1, mjs_2, mjs_3, mjs_ble, true_and, Bool.false_eq_true, if_false, if_true, Nat.reduceAdd, Nat.reduceSub, Nat.reduceLeDiff, false_implies, true_implies, not_false_eq_true, not_true_eq_false, and_true, mc_sh, hr, mjs_up_at, mjs_up_c, mjs_up_f, ej, i2, ew]
  refine ⟨nI_in (by omega) (by decide), ?_⟩
  by_cases e0 : x = 0
  · subst e0
    refine mj_blk rfl ?_
    simp +decide only [mjs_0, mjs_1, mjs_2, mjs_3, mjs_ble, true_and, Bool.false_eq_true, if_false, if_true, Nat.reduceAdd, Nat.reduceSub, Nat.reduceLeDiff, false_implies, true_implies, not_false_eq_true, not_true_eq_false, and_true, mc_sh, hr, mjs_up_at, mjs_up_c, mjs_up_f]
    refine mj_blk rfl ?_
    simp +decide only [mjs_0, mjs_1, mjs_2, mjs_3, mjs_ble, true_and, Bool.false_eq_true, if_false, if_true, Nat.reduceAdd, Nat.reduceSub, Nat.reduceLeDiff, false_implies, true_implies, not_false_eq_true, not_true_eq_false, and_true, mc_sh, hr, mjs_up_at, mjs_up_c, mjs_up_f]
    refine mj_blk rfl ?_
    simp +decide only [mjs_0, mjs_1, mjs_2, mjs_3, mjs_ble, true_and, Bool.false_eq_true, if_false, if_true, Nat.reduceAdd, Nat.reduceSub, Nat.reduceLeDiff, false_implies, true_implies, not_false_eq_true, not_true_eq_false, and_true, mc_sh, hr, mjs_up_at, mjs_up_c, mjs_up_f]
    refine mj_blk rfl ?_
    simp +decide only [mjs_0, mjs_1, mjs_2, mjs_3, mjs_ble, true_and, Bool.false_eq_true, if_false, if_true, Nat.reduceAdd, Nat.reduceSub, Nat.reduceLeDiff, false_implies, true_implies, not_false_eq_true, not_true_eq_false, and_true, mc_sh, hr, mjs_up_at, mjs_up_c, mjs_up_f, i2]
    refine mj_blk rfl ?_
    simp +decide only [mjs_0, mjs_1, mjs_2, mjs_3, mjs_ble, true_and, Bool.false_eq_true, if_false, if_true, Nat.reduceAdd, Nat.reduceSub, Nat.reduceLeDiff, false_implies, true_implies, not_false_eq_true, not_true_eq_false, and_true, mc_sh, hr, mjs_up_at, mjs_up_c, mjs_up_f]
    exact hQ0 rfl _ (rc_Cn (c := C.1) h2 (Nat.le_refl _))
  · have hlr : lr x x 0 := by
      by_cases hneg : x < 0
      · exact Or.inl ⟨hneg, rfl⟩
      · obtain ⟨m, m1, rfl⟩ := nI_of hneg
        refine Or.inr ⟨m, m1, ?_, rfl, by rw [Nat.sub_zero]⟩
        by_cases z : m = 0
        · rw [z] at e0
          exact absurd rfl e0
        · omega
    -- drop's beginning
    have r15 : ∀ {H J : Nat → Nat → Int32} {Lg : Nat → Nat → Int64} {d nc ns : Nat} {Q : mj_Q}, RR H (K, P, E, N, S, M, C2 C j, O, L) J → mj_rn X (mj_hd []) (mj_call X mj_P (mj_bi X) (d + 6)) mb_152 15 (d_L j (C.1 - 1 - j) 0 x 1) [] (sh59, J, Lg, Rf, nc, ns) Q → mj_call X mj_P (mj_bi X) (d + 7) 152 [.ref 36, .int (nI j), .int x] (sh59, J, Lg, Rf, nc, ns) Q := by
      intro H J Lg d nc ns Q hJ hq
      have j33 : J 36 33 = nI C.1 := (rr_d hJ).2.2.2.2.2.2.1.1
      unfold d_L at hq
      refine mj_enter (z := (7, [], mb_152)) (by decide) rfl rfl ?_
      refine mj_blk rfl ?_
      simp +decide only [mjs_0, mjs_1, mjs_2, mjs_3, mjs_ble, true_and, Bool.false_eq_true, if_false, if_true, Nat.reduceAdd, Nat.reduceSub, Nat.reduceLeDiff, false_implies, true_implies, not_false_eq_true, not_true_eq_false, and_true, mm_sh, hm, mjs_up_at, mjs_up_c, mjs_up_f, j33, ew]
      exact mj_nv hq
    exact mj_nv (p_19l (d := d) (C := C2 C j) (x := x) hR hM' hr' hj (P.length + tl L) (C.1 - 1 - j) 0 0 x P N L _ (Nat.le_refl _) hp (by omega) (by omega) (Nat.le_refl _) hlr hv2 h2 ⟨fun P' N' C' L' I' a1 a2 a3 a4 a5 => hQ1 e0 P' N' C' L' I' a1 a2 a3 a4 (fun H Lg d nc ns J Q hJ hq => r15 hJ (a5 H Lg d nc ns J Q hJ hq)), fun g' I' a1 a2 => hQ3 e0 g' I' a1 (fun H Lg d nc ns J Q hJ hq => r15 hJ (a2 H Lg d nc ns J Q hJ hq))⟩)
/-- conditions behind decide -/
theorem cx_dec {Ca Cb : sgC} (h1 : C.1 < 100) (ha : cx (C1 C cs) Ca) (hb : Cb = C2 Ca C.1 ∨ Cb = (C.1, (C2 Ca C.1).2) ∨ Cb = (C.1 + 1, ud (C2 Ca C.1).2.1 C.1 2, (C2 Ca C.1).2.2) ∨ Cb = (C.1 + 1, (C2 Ca C.1).2)) : cx C Cb := by
  intro i hi h0
  obtain ⟨a1, a2, a3⟩ := ha i (show i < C.1 + 1 by omega) (show ud C.2.1 C.1 0 i = 0 by rw [ud_ne (by omega)]; exact h0)
  have a3' : Ca.2.2 i = C.2.2 i := a3.trans (show ud C.2.2 C.1 cs i = C.2.2 i from ud_ne (by omega))
  have e1 : ud Ca.2.1 C.1 1 i = 0 := by rw [ud_ne (by omega)]; exact a2
  rcases hb with rfl | rfl | rfl | rfl
  · exact ⟨a1, e1, a3'⟩
  · exact ⟨hi, e1, a3'⟩
  · refine ⟨show i < C.1 + 1 by omega, ?_, a3'⟩
    show ud (ud Ca.2.1 C.1 1) C.1 2 i = 0
    rw [ud_ne (by omega)]
    exact e1
  · exact ⟨show i < C.1 + 1 by omega, e1, a3'⟩
theorem p_cond (hR : mj_Rt mp_R Rf) (hM' : mj_Rt mm_R Rf) (hX : XD X Rf vb kc kr n) (hN : NU X Rf vb kc kr n) {code : Nat} (hcode : 8 ≤ code ∧ code ≤ 15) (hD : kc ≤ d) (hn : K.2.2 + n = 40) (hr' : nc + 1 ≤ X.2.2.1 ∧ ns + 6 ≤ X.2.2.2) (hv : gv (K, P, E, N, S, M, C, O, L)) (hw : gw K S) (hp : P.length ≤ 10000) (h : RC fb vb (K, P, E, N, S, M, C, O, L) I)
    (hQ1 : ∀ fb' K' P' N' S' C' L' I', gv (K', P', E, N', S', M, C', O, L') → RC fb' vb (K', P', E, N', S', M, C', O, L') I' → P'.length ≤ 10000 → xs K P N S C L K' P' N' S' C' L' → RX X Rf (kr + 11) 147 [.ref 36, .int (nI (code - 1))] (K, P, E, N, S, M, C, O, L) na none (K', P', E, N', S', M, C', O, L') na → Q (.inl none) (sh59, I', Lg, Rf, nc, ns))
    (hQ3 : ∀ g' I', RCf fb vb g' I' → RY X Rf (kr + 11) 147 [.ref 36, .int (nI (code - 1))] (K, P, E, N, S, M, C, O, L) na none g' → Q (.inr 500) (sh59, I', Lg, Rf, nc + 1, ns + 6)) :
    mj_rn X (mj_hd []) (mj_call X mj_P (mj_bi X) (d + 8)) mb_26 202 [some (.ref 28), some (.int (nI code)), none, none, none] [] (sh59, I, Lg, Rf, nc, ns) Q := by
  have hr := mc_rf hR
  have hm := mm_rf hM'
  have hc100 := (gv_d hv).2.2.2.2.2.1.1
  have eC : (nI C.1).toNatClampNeg = C.1 := nI_clamp (by omega)
  have qF : ∀ g' I', RCf fb vb g' I' → RMf X Rf mb_147 (kr + 10) 0 [some (.ref 36), some (.int (nI (code - 1))), none, none, none, none, none, none, none] [] (K, P, E, N, S, M, C, O, L) na none g' → Q (.inr 500) (sh59, I', Lg, Rf, nc + 1, ns + 6) := fun g' I' a1 a2 => hQ3 g' I' a1 (ry_in (z := 9) (by decide) rfl rfl rfl a2)
  -- too many open
  have full : C.1 = 100 → ∀ I', RCf fb vb (K, P, E, N, S, M, C, O, L) I' → Q (.inr 500) (sh59, I', Lg, Rf, nc + 1, ns + 6) := by
    intro e I' c1
    refine qF _ I' c1 ?_
    intro H Lg d nc ns J Q hJ hA hq
    obtain ⟨D, hD, hDk⟩ : ∃ D, d + (kr + 10) = D + 10 ∧ kr ≤ D := ⟨d + kr, by omega, by omega⟩
    rw [hD]
    try rw [hD] at hq
    have j33 : J 36 33 = 100 := (rr_d hJ).2.2.2.2.2.2.1.1.trans (by rw [e]; rfl)
    refine mj_blk rfl ?_
    simp +decide only [mjs_0, mjs_1, mjs_2, mjs_3, mjs_ble, true_and, Bool.false_eq_true, if_false, if_true, Nat.reduceAdd, Nat.reduceSub, Nat.reduceLeDiff, false_implies, true_implies, not_false_eq_true, not_true_eq_false, and_true, mm_sh, hm, mjs_up_at, mjs_up_c, mjs_up_f, j33]
    refine mj_blk rfl ?_
    simp +decide only [mjs_0, mjs_1, mjs_2, mjs_3, mjs_ble, true_and, Bool.false_eq_true, if_false, if_true, Nat.reduceAdd, Nat.reduceSub, Nat.reduceLeDiff, false_implies, true_implies, not_false_eq_true, not_true_eq_false, and_true, mm_sh, hm, mjs_up_at, mjs_up_c, mjs_up_f]
    refine c_106 s59_36 ?_
    rw [if_pos (rr_d hJ).1.2.2.2]
    simp +decide only [mjs_0, mjs_1, mjs_2, mjs_3, mjs_ble, true_and, Bool.false_eq_true, if_false, if_true, Nat.reduceAdd, Nat.reduceSub, Nat.reduceLeDiff, false_implies, true_implies, not_false_eq_true, not_true_eq_false, and_true, mm_sh, hm, mjs_up_at, mjs_up_c, mjs_up_f]
    exact hq _ (rr_f (f := 2) (by decide) (by decide) hJ)
  -- decided
  have tail : ∀ (cs : Nat) (fb2 : Nat → Nat → Int32) (K2 : Nat × Nat × Nat) (P2 : List Nat) (N2 : sgN) (S2 : sgS) (Ca : sgC) (L2 : sgL) (I2 : Nat → Nat → Int32) (x : Int32) (b : Nat) (xn : Int32), C.1 < 100 → gv (K2, P2, E, N2, S2, M, Ca, O, L2) → RC fb2 vb (K2, P2, E, N2, S2, M, Ca, O, L2) I2 → P2.length ≤ 10000 → xs K P N S (C1 C cs) L K2 P2 N2 S2 Ca L2 → x ≠ -2147483648 → (b = 1 ∧ x = 0 ∨ b = 0 ∧ x ≠ 0 ∧ (code = 15 → xn = x) ∧ (code ≠ 15 → x = -1)) → RM X Rf mb_147 (kr + 10) 0 [some (.ref 36), some (.int (nI (code - 1))), none, none, none, none, none, none, none] [] (K, P, E, N, S, M, C, O, L) na 278 (cE (code - 1) C.1 b xn) [] (K2, P2, E, N2, S2, M, Ca, O, L2) na → mj_rn X (mj_hd []) (mj_call X mj_P (mj_bi X) (d + 8)) mb_26 254 [none, none, none, none, none] [.int x, .int (nI C.1), .ref 25] (sh59, I2, Lg, Rf, nc, ns) Q := by
    intro cs fb2 K2 P2 N2 S2 Ca L2 I2 x b xn hlt a1 a2 a3 a4 a5 hb hM
    have hjC : C.1 < Ca.1 := (a4.2.2.2.2.2 C.1 (Nat.lt_succ_self _) ud_at).1
    have hCa := (gv_d a1).2.2.2.2.2.1.1
    have r314 : x = 0 → RX X Rf (kr + 11) 147 [.ref 36, .int (nI (code - 1))] (K, P, E, N, S, M, C, O, L) na none (K2, P2, E, N2, S2, M, C2 Ca C.1, O, L2) na := by
      intro e0
      have hb1 : b = 1 := by
        rcases hb with ⟨z, _⟩ | ⟨_, z, _⟩
        · exact z
        · exact absurd e0 z
      subst hb1
      refine rx_in (z := 9) (by decide) rfl rfl rfl (rm_e hM ?_)
      intro H Lg d nc ns J Q hJ hA hq
      obtain ⟨D, hD, hDk⟩ : ∃ D, d + (kr + 10) = D + 10 ∧ kr ≤ D := ⟨d + kr, by omega, by omega⟩
      rw [hD]
      try rw [hD] at hq
      unfold cE
      refine mj_blk rfl ?_
      simp +decide only [mjs_0, mjs_1, mjs_2, mjs_3, mjs_ble, true_and, Bool.false_eq_true, if_false, if_true, Nat.reduceAdd, Nat.reduceSub, Nat.reduceLeDiff, false_implies, true_implies, not_false_eq_true, not_true_eq_false, and_true, mm_sh, hm, mjs_up_at, mjs_up_c, mjs_up_f, (rr_d hJ).1.2.2.2]
      refine mj_blk rfl ?_
      simp +decide only [mjs_0, mjs_1, mjs_2, mjs_3, mjs_ble, true_and, Bool.false_eq_true, if_false, if_true, Nat.reduceAdd, Nat.reduceSub, Nat.reduceLeDiff, false_implies, true_implies, not_false_eq_true, not_true_eq_false, and_true, mm_sh, hm, mjs_up_at, mjs_up_c, mjs_up_f, eC]
      refine ⟨nI_in (by omega) (by decide), mj_blk rfl ?_⟩
      simp +decide only [mjs_0, mjs_1, mjs_2, mjs_3, mjs_ble, true_and, Bool.false_eq_true, if_false, if_true, Nat.reduceAdd, Nat.reduceSub, Nat.reduceLeDiff, false_implies, true_implies, not_false_eq_true, not_true_eq_false, and_true, mm_sh, hm, mjs_up_at, mjs_up_c, mjs_up_f]
      exact hq H _ hx_rf (rr_Cs (s := 1) hJ) trivial
    -- to drop
    have r311 : x ≠ 0 → ∀ {H J : Nat → Nat → Int32} {Lg : Nat → Nat → Int64} {D nc ns : Nat} {Q : mj_Q}, RR H (K2, P2, E, N2, S2, M, Ca, O, L2) J → mj_rn X (mj_hd []) (mj_call X mj_P (mj_bi X) (D + 10)) mb_147 311 [none, none, none, none, none, none, none, none, none] [.int x, .int (nI C.1), .ref 36] (sh59, mj_up J 57 C.1 1, Lg, Rf, nc, ns) Q → mj_rn X (mj_hd []) (mj_call X mj_P (mj_bi X) (D + 10)) mb_147 278 (cE (code - 1) C.1 b xn) [] (sh59, J, Lg, Rf, nc, ns) Q := by
      intro e0 H J Lg D nc ns Q hJ hq
      obtain ⟨b0, -, x1, x2⟩ : b = 0 ∧ x ≠ 0 ∧ (code = 15 → xn = x) ∧ (code ≠ 15 → x = -1) := by
        rcases hb with ⟨_, z⟩ | z
        · exact absurd z e0
        · exact z
      subst b0
      unfold cE
      refine mj_blk rfl ?_
      simp +decide only [mjs_0, mjs_1, mjs_2, mjs_3, mjs_ble, true_and, Bool.false_eq_true, if_false, if_true, Nat.reduceAdd, Nat.reduceSub, Nat.reduceLeDiff, false_implies, true_implies, not_false_eq_true, not_true_eq_false, and_true, mm_sh, hm, mjs_up_at, mjs_up_c, mjs_up_f, (rr_d hJ).1.2.2.2]
      refine mj_blk rfl ?_
      simp +decide only [mjs_0, mjs_1, mjs_2, mjs_3, mjs_ble, true_and, Bool.false_eq_true, if_false, if_true, Nat.reduceAdd, Nat.reduceSub, Nat.reduceLeDiff, false_implies, true_implies, not_false_eq_true, not_true_eq_false, and_true, mm_sh, hm, mjs_up_at, mjs_up_c, mjs_up_f, eC]
      refine ⟨nI_in (by omega) (by decide), mj_blk rfl ?_⟩
      simp +decide only [mjs_0, mjs_1, mjs_2, mjs_3, mjs_ble, true_and, Bool.false_eq_true, if_false, if_true, Nat.reduceAdd, Nat.reduceSub, Nat.reduceLeDiff, false_implies, true_implies, not_false_eq_true, not_true_eq_false, and_true, mm_sh, hm, mjs_up_at, mjs_up_c, mjs_up_f]
      by_cases e15 : code = 15
      · have ex := x1 e15
        subst e15
        subst ex
        simp +decide only [mjs_0, mjs_1, mjs_2, mjs_3, mjs_ble, true_and, Bool.false_eq_true, if_false, if_true, Nat.reduceAdd, Nat.reduceSub, Nat.reduceLeDiff, false_implies, true_implies, not_false_eq_true, not_true_eq_false, and_true, mm_sh, hm, mjs_up_at, mjs_up_c, mjs_up_f]
        refine mj_blk rfl ?_
        simp +decide only [mjs_0, mjs_1, mjs_2, mjs_3, mjs_ble, true_and, Bool.false_eq_true, if_false, if_true, Nat.reduceAdd, Nat.reduceSub, Nat.reduceLeDiff, false_implies, true_implies, not_false_eq_true, not_true_eq_false, and_true, mm_sh, hm, mjs_up_at, mjs_up_c, mjs_up_f]
        exact mj_nv hq
      · have ex := x2 e15
        subst ex
        have ne : ¬ nI (code - 1) = 14 := fun q => absurd ((nI_eq (b := 14) (by omega) (by decide)).mp q) (by omega)
        refine ⟨fun _ => mj_blk rfl ?_, fun q => absurd ne q⟩
        simp +decide only [mjs_0, mjs_1, mjs_2, mjs_3, mjs_ble, true_and, Bool.false_eq_true, if_false, if_true, Nat.reduceAdd, Nat.reduceSub, Nat.reduceLeDiff, false_implies, true_implies, not_false_eq_true, not_true_eq_false, and_true, mm_sh, hm, mjs_up_at, mjs_up_c, mjs_up_f]
        exact mj_nv hq
    refine mj_blk rfl ?_
    simp +decide only [mjs_0, mjs_1, mjs_2, mjs_3, mjs_ble, true_and, Bool.false_eq_true, if_false, if_true, Nat.reduceAdd, Nat.reduceSub, Nat.reduceLeDiff, false_implies, true_implies, not_false_eq_true, not_true_eq_false, and_true, mc_sh]
    refine p_19 hR hM' hr' hjC a5 a1 a2 a3 (fun e0 I3 c3 => ?_) (fun e0 P3 N3 C3 L3 I3 b1 b2 b3 b4 b5 => ?_) (fun e0 g3 I3 b1 b2 => ?_)
    · simp +decide only [mjs_0, mjs_1, mjs_2, mjs_3, mjs_ble, true_and, Bool.false_eq_true, if_false, if_true, Nat.reduceAdd, Nat.reduceSub, Nat.reduceLeDiff, false_implies, true_implies, not_false_eq_true, not_true_eq_false, and_true]
      refine mj_blk rfl ?_
      simp +decide only [mjs_0, mjs_1, mjs_2, mjs_3, mjs_ble, true_and, Bool.false_eq_true, if_false, if_true, Nat.reduceAdd, Nat.reduceSub, Nat.reduceLeDiff, false_implies, true_implies, not_false_eq_true, not_true_eq_false, and_true]
      exact hQ1 fb2 K2 P2 N2 S2 (C2 Ca C.1) L2 I3 (gv_C a1 (gvC_2 (gv_d a1).2.2.2.2.2.1)) c3 a3 ⟨a4.1, a4.2.1, a4.2.2.1, a4.2.2.2.1, a4.2.2.2.2.1, cx_dec hlt a4.2.2.2.2.2 (Or.inl rfl)⟩ (r314 e0)
    · simp +decide only [mjs_0, mjs_1, mjs_2, mjs_3, mjs_ble, true_and, Bool.false_eq_true, if_false, if_true, Nat.reduceAdd, Nat.reduceSub, Nat.reduceLeDiff, false_implies, true_implies, not_false_eq_true, not_true_eq_false, and_true]
      refine mj_blk rfl ?_
      simp +decide only [mjs_0, mjs_1, mjs_2, mjs_3, mjs_ble, true_and, Bool.false_eq_true, if_false, if_true, Nat.reduceAdd, Nat.reduceSub, Nat.reduceLeDiff, false_implies, true_implies, not_false_eq_true, not_true_eq_false, and_true]
      have hmu : mu K2 P3 L3 ≤ mu K2 P2 L2 := (xs_get (K := K2) (S := S2) (C := Ca) b3.1 b3.2.1 b3.2.2.2).2.2.1
      refine hQ1 fb2 K2 P3 N3 S2 C3 L3 I3 b1 b2 (Nat.le_trans b3.2.2.1 a3) ⟨nx_tr a4.1 b3.1, a4.2.1, Nat.le_trans hmu a4.2.2.1, Nat.le_trans b3.2.2.2 a4.2.2.2.1, a4.2.2.2.2.1, cx_dec hlt a4.2.2.2.2.2 (Or.inr b4)⟩ (rx_in (z := 9) (by decide) rfl rfl rfl (rm_e hM ?_))
      intro H Lg d nc ns J Q hJ hA hq
      obtain ⟨D, hD, hDk⟩ : ∃ D, d + (kr + 10) = D + 10 ∧ kr ≤ D := ⟨d + kr, by omega, by omega⟩
      rw [hD]
      try rw [hD] at hq
      refine r311 e0 hJ ?_
      refine mj_blk rfl ?_
      simp +decide only [mjs_0, mjs_1, mjs_2, mjs_3, mjs_ble, true_and, Bool.false_eq_true, if_false, if_true, Nat.reduceAdd, Nat.reduceSub, Nat.reduceLeDiff, false_implies, true_implies, not_false_eq_true, not_true_eq_false, and_true, mm_sh, hm, mjs_up_at, mjs_up_c, mjs_up_f]
      refine b5 H Lg (D + 3) nc ns _ _ (rr_Cs (s := 1) hJ) (fun J3 c3 => ?_)
      simp +decide only [mjs_0, mjs_1, mjs_2, mjs_3, mjs_ble, true_and, Bool.false_eq_true, if_false, if_true, Nat.reduceAdd, Nat.reduceSub, Nat.reduceLeDiff, false_implies, true_implies, not_false_eq_true, not_true_eq_false, and_true, mm_sh, hm, mjs_up_at, mjs_up_c, mjs_up_f]
      refine mj_blk rfl ?_
      simp +decide only [mjs_0, mjs_1, mjs_2, mjs_3, mjs_ble, true_and, Bool.false_eq_true, if_false, if_true, Nat.reduceAdd, Nat.reduceSub, Nat.reduceLeDiff, false_implies, true_implies, not_false_eq_true, not_true_eq_false, and_true, mm_sh, hm, mjs_up_at, mjs_up_c, mjs_up_f]
      exact hq H J3 hx_rf c3 trivial
    · simp +decide only [mjs_0, mjs_1, mjs_2, mjs_3, mjs_ble, true_and, Bool.false_eq_true, if_false, if_true, Nat.reduceAdd, Nat.reduceSub, Nat.reduceLeDiff, false_implies, true_implies, not_false_eq_true, not_true_eq_false, and_true]
      refine qF g3 I3 b1 (rm_f hM ?_)
      intro H Lg d nc ns J Q hJ hA hq
      obtain ⟨D, hD, hDk⟩ : ∃ D, d + (kr + 10) = D + 10 ∧ kr ≤ D := ⟨d + kr, by omega, by omega⟩
      rw [hD]
      try rw [hD] at hq
      refine r311 e0 hJ ?_
      refine mj_blk rfl ?_
      simp +decide only [mjs_0, mjs_1, mjs_2, mjs_3, mjs_ble, true_and, Bool.false_eq_true, if_false, if_true, Nat.reduceAdd, Nat.reduceSub, Nat.reduceLeDiff, false_implies, true_implies, not_false_eq_true, not_true_eq_false, and_true, mm_sh, hm, mjs_up_at, mjs_up_c, mjs_up_f]
      refine b2 H Lg (D + 3) nc ns _ _ (rr_Cs (s := 1) hJ) (fun J3 c3 => ?_)
      simp +decide only [mjs_0, mjs_1, mjs_2, mjs_3, mjs_ble, true_and, Bool.false_eq_true, if_false, if_true, Nat.reduceAdd, Nat.reduceSub, Nat.reduceLeDiff, false_implies, true_implies, not_false_eq_true, not_true_eq_false, and_true, mm_sh, hm, mjs_up_at, mjs_up_c, mjs_up_f]
      refine mj_blk rfl ?_
      simp +decide only [mjs_0, mjs_1, mjs_2, mjs_3, mjs_ble, true_and, Bool.false_eq_true, if_false, if_true, Nat.reduceAdd, Nat.reduceSub, Nat.reduceLeDiff, false_implies, true_implies, not_false_eq_true, not_true_eq_false, and_true, mm_sh, hm, mjs_up_at, mjs_up_c, mjs_up_f]
      exact hq J3 c3
  have cases8 : code = 8 ∨ code = 9 ∨ code = 10 ∨ code = 11 ∨ code = 12 ∨ code = 13 ∨ code = 14 ∨ code = 15 := by omega
  rcases cases8 with rfl | rfl | rfl | rfl | rfl | rfl | rfl | rfl
  · -- code 8
    refine mj_blk rfl ?_
    simp +decide only [mjs_0, mjs_1, mjs_2, mjs_3, mjs_ble, true_and, Bool.false_eq_true, if_false, if_true, Nat.reduceAdd, Nat.reduceSub, Nat.reduceLeDiff, false_implies, true_implies, not_false_eq_true, not_true_eq_false, and_true, mc_sh, hr, mjs_up_at, mjs_up_c, mjs_up_f]
    refine mj_blk rfl ?_
    simp +decide only [mjs_0, mjs_1, mjs_2, mjs_3, mjs_ble, true_and, Bool.false_eq_true, if_false, if_true, Nat.reduceAdd, Nat.reduceSub, Nat.reduceLeDiff, false_implies, true_implies, not_false_eq_true, not_true_eq_false, and_true]
    refine mj_blk rfl ?_
    simp +decide only [mjs_0, mjs_1, mjs_2, mjs_3, mjs_ble, true_and, Bool.false_eq_true, if_false, if_true, Nat.reduceAdd, Nat.reduceSub, Nat.reduceLeDiff, false_implies, true_implies, not_false_eq_true, not_true_eq_false, and_true, mc_sh]
    refine cq_18 (cs := 0) hR hv h hr' (Or.inl rfl) (fun hlt I1 c1 => ?_) full
    have hv1 : gv (K, P, E, N, S, M, C1 C 0, O, L) := gv_C hv (gvC_1 (gv_d hv).2.2.2.2.2.1 hlt (by decide))
    have rT : RM X Rf mb_147 (kr + 10) 0 [some (.ref 36), some (.int (nI (8 - 1))), none, none, none, none, none, none, none] [] (K, P, E, N, S, M, C, O, L) na 108 (cL (8 - 1) C.1) [] (K, P, E, N, S, M, C1 C 0, O, L) na := by
      intro H Lg d nc ns J Q hJ hA hq
      obtain ⟨D, hD, hDk⟩ : ∃ D, d + (kr + 10) = D + 10 ∧ kr ≤ D := ⟨d + kr, by omega, by omega⟩
      rw [hD]
      try rw [hD] at hq
      have j33 : J 36 33 = nI C.1 := (rr_d hJ).2.2.2.2.2.2.1.1
      have ne : ¬ nI C.1 = 100 := fun q => absurd ((nI_eq (b := 100) (by omega) (by decide)).mp q) (by omega)
      have en : vp_nar .boolean (0 : Int32) = 0 := by decide
      unfold cL at hq
      refine mj_blk rfl ?_
      simp +decide only [mjs_0, mjs_1, mjs_2, mjs_3, mjs_ble, true_and, Bool.false_eq_true, if_false, if_true, Nat.reduceAdd, Nat.reduceSub, Nat.reduceLeDiff, false_implies, true_implies, not_false_eq_true, not_true_eq_false, and_true, mm_sh, hm, mjs_up_at, mjs_up_c, mjs_up_f, j33]
      refine ⟨fun _ => mj_blk rfl ?_, fun q => absurd ne q⟩
      simp +decide only [mjs_0, mjs_1, mjs_2, mjs_3, mjs_ble, true_and, Bool.false_eq_true, if_false, if_true, Nat.reduceAdd, Nat.reduceSub, Nat.reduceLeDiff, false_implies, true_implies, not_false_eq_true, not_true_eq_false, and_true, mm_sh, hm, mjs_up_at, mjs_up_c, mjs_up_f, j33]
      refine mj_blk rfl ?_
      simp +decide only [mjs_0, mjs_1, mjs_2, mjs_3, mjs_ble, true_and, Bool.false_eq_true, if_false, if_true, Nat.reduceAdd, Nat.reduceSub, Nat.reduceLeDiff, false_implies, true_implies, not_false_eq_true, not_true_eq_false, and_true, mm_sh, hm, mjs_up_at, mjs_up_c, mjs_up_f]
      refine mj_blk rfl ?_
      simp +decide only [mjs_0, mjs_1, mjs_2, mjs_3, mjs_ble, true_and, Bool.false_eq_true, if_false, if_true, Nat.reduceAdd, Nat.reduceSub, Nat.reduceLeDiff, false_implies, true_implies, not_false_eq_true, not_true_eq_false, and_true, mm_sh, hm, mjs_up_at, mjs_up_c, mjs_up_f, eC, en, j33, nI_1]
      refine ⟨nI_in (by omega) (by decide), nI_in (by omega) (by decide), ?_⟩
      exact mj_nv (hq H _ hx_rf (rr_C1 (cs := 0) hJ) trivial)
    simp +decide only [mjs_0, mjs_1, mjs_2, mjs_3, mjs_ble, true_and, Bool.false_eq_true, if_false, if_true, Nat.reduceAdd, Nat.reduceSub, Nat.reduceLeDiff, false_implies, true_implies, not_false_eq_true, not_true_eq_false, and_true, mc_sh, hr, mjs_up_at, mjs_up_c, mjs_up_f]
    refine mj_blk rfl ?_
    simp +decide only [mjs_0, mjs_1, mjs_2, mjs_3, mjs_ble, true_and, Bool.false_eq_true, if_false, if_true, Nat.reduceAdd, Nat.reduceSub, Nat.reduceLeDiff, false_implies, true_implies, not_false_eq_true, not_true_eq_false, and_true, mc_sh]
    refine h_if (mine := C.1) hR hM' hX hN (by omega) hn hr' hv1 hw hp c1 (fun fb2 K2 P2 N2 S2 Ca L2 I2 b a1 a2 a3 a4 a5 a6 => ?_) (fun g2 I2 a1 a2 => ?_)
    · have hb01 : b = 0 ∨ b = 1 := by omega
      rcases hb01 with rfl | rfl
      · simp +decide only [mjs_0, mjs_1, mjs_2, mjs_3, mjs_ble, true_and, Bool.false_eq_true, if_false, if_true, Nat.reduceAdd, Nat.reduceSub, Nat.reduceLeDiff, false_implies, true_implies, not_false_eq_true, not_true_eq_false, and_true]
        refine mj_blk rfl ?_
        simp +decide only [mjs_0, mjs_1, mjs_2, mjs_3, mjs_ble, true_and, Bool.false_eq_true, if_false, if_true, Nat.reduceAdd, Nat.reduceSub, Nat.reduceLeDiff, false_implies, true_implies, not_false_eq_true, not_true_eq_false, and_true]
        exact mj_nv (tail 0 fb2 K2 P2 N2 S2 Ca L2 I2 (-1) 0 0 hlt a1 a2 a3 a4 (by decide) (Or.inr ⟨rfl, by decide, fun e => absurd e (by decide), fun _ => rfl⟩) (rm_tr rT a6))
      · simp +decide only [mjs_0, mjs_1, mjs_2, mjs_3, mjs_ble, true_and, Bool.false_eq_true, if_false, if_true, Nat.reduceAdd, Nat.reduceSub, Nat.reduceLeDiff, false_implies, true_implies, not_false_eq_true, not_true_eq_false, and_true]
        refine mj_blk rfl ?_
        simp +decide only [mjs_0, mjs_1, mjs_2, mjs_3, mjs_ble, true_and, Bool.false_eq_true, if_false, if_true, Nat.reduceAdd, Nat.reduceSub, Nat.reduceLeDiff, false_implies, true_implies, not_false_eq_true, not_true_eq_false, and_true]
        exact mj_nv (tail 0 fb2 K2 P2 N2 S2 Ca L2 I2 0 1 0 hlt a1 a2 a3 a4 (by decide) (Or.inl ⟨rfl, rfl⟩) (rm_tr rT a6))
    · simp +decide only [mjs_0, mjs_1, mjs_2, mjs_3, mjs_ble, true_and, Bool.false_eq_true, if_false, if_true, Nat.reduceAdd, Nat.reduceSub, Nat.reduceLeDiff, false_implies, true_implies, not_false_eq_true, not_true_eq_false, and_true]
      exact qF g2 I2 a1 (rm_f rT a2)
  · -- code 9
    refine mj_blk rfl ?_
    simp +decide only [mjs_0, mjs_1, mjs_2, mjs_3, mjs_ble, true_and, Bool.false_eq_true, if_false, if_true, Nat.reduceAdd, Nat.reduceSub, Nat.reduceLeDiff, false_implies, true_implies, not_false_eq_true, not_true_eq_false, and_true, mc_sh, hr, mjs_up_at, mjs_up_c, mjs_up_f]
    refine mj_blk rfl ?_
    simp +decide only [mjs_0, mjs_1, mjs_2, mjs_3, mjs_ble, true_and, Bool.false_eq_true, if_false, if_true, Nat.reduceAdd, Nat.reduceSub, Nat.reduceLeDiff, false_implies, true_implies, not_false_eq_true, not_true_eq_false, and_true]
    refine mj_blk rfl ?_
    simp +decide only [mjs_0, mjs_1, mjs_2, mjs_3, mjs_ble, true_and, Bool.false_eq_true, if_false, if_true, Nat.reduceAdd, Nat.reduceSub, Nat.reduceLeDiff, false_implies, true_implies, not_false_eq_true, not_true_eq_false, and_true, mc_sh]
    refine cq_18 (cs := 0) hR hv h hr' (Or.inl rfl) (fun hlt I1 c1 => ?_) full
    have hv1 : gv (K, P, E, N, S, M, C1 C 0, O, L) := gv_C hv (gvC_1 (gv_d hv).2.2.2.2.2.1 hlt (by decide))
    have rT : RM X Rf mb_147 (kr + 10) 0 [some (.ref 36), some (.int (nI (9 - 1))), none, none, none, none, none, none, none] [] (K, P, E, N, S, M, C, O, L) na 108 (cL (9 - 1) C.1) [] (K, P, E, N, S, M, C1 C 0, O, L) na := by
      intro H Lg d nc ns J Q hJ hA hq
      obtain ⟨D, hD, hDk⟩ : ∃ D, d + (kr + 10) = D + 10 ∧ kr ≤ D := ⟨d + kr, by omega, by omega⟩
      rw [hD]
      try rw [hD] at hq
      have j33 : J 36 33 = nI C.1 := (rr_d hJ).2.2.2.2.2.2.1.1
      have ne : ¬ nI C.1 = 100 := fun q => absurd ((nI_eq (b := 100) (by omega) (by decide)).mp q) (by omega)
      have en : vp_nar .boolean (0 : Int32) = 0 := by decide
      unfold cL at hq
      refine mj_blk rfl ?_
      simp +decide only [mjs_0, mjs_1, mjs_2, mjs_3, mjs_ble, true_and, Bool.false_eq_true, if_false, if_true, Nat.reduceAdd, Nat.reduceSub, Nat.reduceLeDiff, false_implies, true_implies, not_false_eq_true, not_true_eq_false, and_true, mm_sh, hm, mjs_up_at, mjs_up_c, mjs_up_f, j33]
      refine ⟨fun _ => mj_blk rfl ?_, fun q => absurd ne q⟩
      simp +decide only [mjs_0, mjs_1, mjs_2, mjs_3, mjs_ble, true_and, Bool.false_eq_true, if_false, if_true, Nat.reduceAdd, Nat.reduceSub, Nat.reduceLeDiff, false_implies, true_implies, not_false_eq_true, not_true_eq_false, and_true, mm_sh, hm, mjs_up_at, mjs_up_c, mjs_up_f, j33]
      refine mj_blk rfl ?_
      simp +decide only [mjs_0, mjs_1, mjs_2, mjs_3, mjs_ble, true_and, Bool.false_eq_true, if_false, if_true, Nat.reduceAdd, Nat.reduceSub, Nat.reduceLeDiff, false_implies, true_implies, not_false_eq_true, not_true_eq_false, and_true, mm_sh, hm, mjs_up_at, mjs_up_c, mjs_up_f]
      refine mj_blk rfl ?_
      simp +decide only [mjs_0, mjs_1, mjs_2, mjs_3, mjs_ble, true_and, Bool.false_eq_true, if_false, if_true, Nat.reduceAdd, Nat.reduceSub, Nat.reduceLeDiff, false_implies, true_implies, not_false_eq_true, not_true_eq_false, and_true, mm_sh, hm, mjs_up_at, mjs_up_c, mjs_up_f, eC, en, j33, nI_1]
      refine ⟨nI_in (by omega) (by decide), nI_in (by omega) (by decide), ?_⟩
      exact mj_nv (hq H _ hx_rf (rr_C1 (cs := 0) hJ) trivial)
    simp +decide only [mjs_0, mjs_1, mjs_2, mjs_3, mjs_ble, true_and, Bool.false_eq_true, if_false, if_true, Nat.reduceAdd, Nat.reduceSub, Nat.reduceLeDiff, false_implies, true_implies, not_false_eq_true, not_true_eq_false, and_true, mc_sh, hr, mjs_up_at, mjs_up_c, mjs_up_f]
    refine mj_blk rfl ?_
    simp +decide only [mjs_0, mjs_1, mjs_2, mjs_3, mjs_ble, true_and, Bool.false_eq_true, if_false, if_true, Nat.reduceAdd, Nat.reduceSub, Nat.reduceLeDiff, false_implies, true_implies, not_false_eq_true, not_true_eq_false, and_true, mc_sh]
    refine h_ifcat (mine := C.1) hR hM' hX hN (by omega) hn hr' hv1 hw hp c1 (fun fb2 K2 P2 N2 S2 Ca L2 I2 b a1 a2 a3 a4 a5 a6 => ?_) (fun g2 I2 a1 a2 => ?_)
    · have hb01 : b = 0 ∨ b = 1 := by omega
      rcases hb01 with rfl | rfl
      · simp +decide only [mjs_0, mjs_1, mjs_2, mjs_3, mjs_ble, true_and, Bool.false_eq_true, if_false, if_true, Nat.reduceAdd, Nat.reduceSub, Nat.reduceLeDiff, false_implies, true_implies, not_false_eq_true, not_true_eq_false, and_true]
        refine mj_blk rfl ?_
        simp +decide only [mjs_0, mjs_1, mjs_2, mjs_3, mjs_ble, true_and, Bool.false_eq_true, if_false, if_true, Nat.reduceAdd, Nat.reduceSub, Nat.reduceLeDiff, false_implies, true_implies, not_false_eq_true, not_true_eq_false, and_true]
        exact mj_nv (tail 0 fb2 K2 P2 N2 S2 Ca L2 I2 (-1) 0 0 hlt a1 a2 a3 a4 (by decide) (Or.inr ⟨rfl, by decide, fun e => absurd e (by decide), fun _ => rfl⟩) (rm_tr rT a6))
      · simp +decide only [mjs_0, mjs_1, mjs_2, mjs_3, mjs_ble, true_and, Bool.false_eq_true, if_false, if_true, Nat.reduceAdd, Nat.reduceSub, Nat.reduceLeDiff, false_implies, true_implies, not_false_eq_true, not_true_eq_false, and_true]
        refine mj_blk rfl ?_
        simp +decide only [mjs_0, mjs_1, mjs_2, mjs_3, mjs_ble, true_and, Bool.false_eq_true, if_false, if_true, Nat.reduceAdd, Nat.reduceSub, Nat.reduceLeDiff, false_implies, true_implies, not_false_eq_true, not_true_eq_false, and_true]
        exact mj_nv (tail 0 fb2 K2 P2 N2 S2 Ca L2 I2 0 1 0 hlt a1 a2 a3 a4 (by decide) (Or.inl ⟨rfl, rfl⟩) (rm_tr rT a6))
    · simp +decide only [mjs_0, mjs_1, mjs_2, mjs_3, mjs_ble, true_and, Bool.false_eq_true, if_false, if_true, Nat.reduceAdd, Nat.reduceSub, Nat.reduceLeDiff, false_implies, true_implies, not_false_eq_true, not_true_eq_false, and_true]
      exact qF g2 I2 a1 (rm_f rT a2)
  · -- code 10
    refine mj_blk rfl ?_
    simp +decide only [mjs_0, mjs_1, mjs_2, mjs_3, mjs_ble, true_and, Bool.false_eq_true, if_false, if_true, Nat.reduceAdd, Nat.reduceSub, Nat.reduceLeDiff, false_implies, true_implies, not_false_eq_true, not_true_eq_false, and_true, mc_sh, hr, mjs_up_at, mjs_up_c, mjs_up_f]
    refine mj_blk rfl ?_
    simp +decide only [mjs_0, mjs_1, mjs_2, mjs_3, mjs_ble, true_and, Bool.false_eq_true, if_false, if_true, Nat.reduceAdd, Nat.reduceSub, Nat.reduceLeDiff, false_implies, true_implies, not_false_eq_true, not_true_eq_false, and_true]
    refine mj_blk rfl ?_
    simp +decide only [mjs_0, mjs_1, mjs_2, mjs_3, mjs_ble, true_and, Bool.false_eq_true, if_false, if_true, Nat.reduceAdd, Nat.reduceSub, Nat.reduceLeDiff, false_implies, true_implies, not_false_eq_true, not_true_eq_false, and_true, mc_sh]
    refine cq_18 (cs := 0) hR hv h hr' (Or.inl rfl) (fun hlt I1 c1 => ?_) full
    have hv1 : gv (K, P, E, N, S, M, C1 C 0, O, L) := gv_C hv (gvC_1 (gv_d hv).2.2.2.2.2.1 hlt (by decide))
    have rT : RM X Rf mb_147 (kr + 10) 0 [some (.ref 36), some (.int (nI (10 - 1))), none, none, none, none, none, none, none] [] (K, P, E, N, S, M, C, O, L) na 173 (cL (10 - 1) C.1) [] (K, P, E, N, S, M, C1 C 0, O, L) na := by
      intro H Lg d nc ns J Q hJ hA hq
      obtain ⟨D, hD, hDk⟩ : ∃ D, d + (kr + 10) = D + 10 ∧ kr ≤ D := ⟨d + kr, by omega, by omega⟩
      rw [hD]
      try rw [hD] at hq
      have j33 : J 36 33 = nI C.1 := (rr_d hJ).2.2.2.2.2.2.1.1
      have ne : ¬ nI C.1 = 100 := fun q => absurd ((nI_eq (b := 100) (by omega) (by decide)).mp q) (by omega)
      have en : vp_nar .boolean (0 : Int32) = 0 := by decide
      unfold cL at hq
      refine mj_blk rfl ?_
      simp +decide only [mjs_0, mjs_1, mjs_2, mjs_3, mjs_ble, true_and, Bool.false_eq_true, if_false, if_true, Nat.reduceAdd, Nat.reduceSub, Nat.reduceLeDiff, false_implies, true_implies, not_false_eq_true, not_true_eq_false, and_true, mm_sh, hm, mjs_up_at, mjs_up_c, mjs_up_f, j33]
      refine ⟨fun _ => mj_blk rfl ?_, fun q => absurd ne q⟩
      simp +decide only [mjs_0, mjs_1, mjs_2, mjs_3, mjs_ble, true_and, Bool.false_eq_true, if_false, if_true, Nat.reduceAdd, Nat.reduceSub, Nat.reduceLeDiff, false_implies, true_implies, not_false_eq_true, not_true_eq_false, and_true, mm_sh, hm, mjs_up_at, mjs_up_c, mjs_up_f, j33]
      refine mj_blk rfl ?_
      simp +decide only [mjs_0, mjs_1, mjs_2, mjs_3, mjs_ble, true_and, Bool.false_eq_true, if_false, if_true, Nat.reduceAdd, Nat.reduceSub, Nat.reduceLeDiff, false_implies, true_implies, not_false_eq_true, not_true_eq_false, and_true, mm_sh, hm, mjs_up_at, mjs_up_c, mjs_up_f]
      refine mj_blk rfl ?_
      simp +decide only [mjs_0, mjs_1, mjs_2, mjs_3, mjs_ble, true_and, Bool.false_eq_true, if_false, if_true, Nat.reduceAdd, Nat.reduceSub, Nat.reduceLeDiff, false_implies, true_implies, not_false_eq_true, not_true_eq_false, and_true, mm_sh, hm, mjs_up_at, mjs_up_c, mjs_up_f, eC, en, j33, nI_1]
      refine ⟨nI_in (by omega) (by decide), nI_in (by omega) (by decide), ?_⟩
      exact mj_nv (hq H _ hx_rf (rr_C1 (cs := 0) hJ) trivial)
    simp +decide only [mjs_0, mjs_1, mjs_2, mjs_3, mjs_ble, true_and, Bool.false_eq_true, if_false, if_true, Nat.reduceAdd, Nat.reduceSub, Nat.reduceLeDiff, false_implies, true_implies, not_false_eq_true, not_true_eq_false, and_true, mc_sh, hr, mjs_up_at, mjs_up_c, mjs_up_f]
    refine mj_blk rfl ?_
    simp +decide only [mjs_0, mjs_1, mjs_2, mjs_3, mjs_ble, true_and, Bool.false_eq_true, if_false, if_true, Nat.reduceAdd, Nat.reduceSub, Nat.reduceLeDiff, false_implies, true_implies, not_false_eq_true, not_true_eq_false, and_true, mc_sh]
    refine h_ifx (mine := C.1) hR hM' hX hN (by omega) hn hr' hv1 hw hp c1 (fun fb2 K2 P2 N2 S2 Ca L2 I2 b a1 a2 a3 a4 a5 a6 => ?_) (fun g2 I2 a1 a2 => ?_)
    · have hb01 : b = 0 ∨ b = 1 := by omega
      rcases hb01 with rfl | rfl
      · simp +decide only [mjs_0, mjs_1, mjs_2, mjs_3, mjs_ble, true_and, Bool.false_eq_true, if_false, if_true, Nat.reduceAdd, Nat.reduceSub, Nat.reduceLeDiff, false_implies, true_implies, not_false_eq_true, not_true_eq_false, and_true]
        refine mj_blk rfl ?_
        simp +decide only [mjs_0, mjs_1, mjs_2, mjs_3, mjs_ble, true_and, Bool.false_eq_true, if_false, if_true, Nat.reduceAdd, Nat.reduceSub, Nat.reduceLeDiff, false_implies, true_implies, not_false_eq_true, not_true_eq_false, and_true]
        exact mj_nv (tail 0 fb2 K2 P2 N2 S2 Ca L2 I2 (-1) 0 0 hlt a1 a2 a3 a4 (by decide) (Or.inr ⟨rfl, by decide, fun e => absurd e (by decide), fun _ => rfl⟩) (rm_tr rT a6))
      · simp +decide only [mjs_0, mjs_1, mjs_2, mjs_3, mjs_ble, true_and, Bool.false_eq_true, if_false, if_true, Nat.reduceAdd, Nat.reduceSub, Nat.reduceLeDiff, false_implies, true_implies, not_false_eq_true, not_true_eq_false, and_true]
        refine mj_blk rfl ?_
        simp +decide only [mjs_0, mjs_1, mjs_2, mjs_3, mjs_ble, true_and, Bool.false_eq_true, if_false, if_true, Nat.reduceAdd, Nat.reduceSub, Nat.reduceLeDiff, false_implies, true_implies, not_false_eq_true, not_true_eq_false, and_true]
        exact mj_nv (tail 0 fb2 K2 P2 N2 S2 Ca L2 I2 0 1 0 hlt a1 a2 a3 a4 (by decide) (Or.inl ⟨rfl, rfl⟩) (rm_tr rT a6))
    · simp +decide only [mjs_0, mjs_1, mjs_2, mjs_3, mjs_ble, true_and, Bool.false_eq_true, if_false, if_true, Nat.reduceAdd, Nat.reduceSub, Nat.reduceLeDiff, false_implies, true_implies, not_false_eq_true, not_true_eq_false, and_true]
      exact qF g2 I2 a1 (rm_f rT a2)
  · -- code 11
    refine mj_blk rfl ?_
    simp +decide only [mjs_0, mjs_1, mjs_2, mjs_3, mjs_ble, true_and, Bool.false_eq_true, if_false, if_true, Nat.reduceAdd, Nat.reduceSub, Nat.reduceLeDiff, false_implies, true_implies, not_false_eq_true, not_true_eq_false, and_true, mc_sh, hr, mjs_up_at, mjs_up_c, mjs_up_f]
    refine mj_blk rfl ?_
    simp +decide only [mjs_0, mjs_1, mjs_2, mjs_3, mjs_ble, true_and, Bool.false_eq_true, if_false, if_true, Nat.reduceAdd, Nat.reduceSub, Nat.reduceLeDiff, false_implies, true_implies, not_false_eq_true, not_true_eq_false, and_true]
    refine mj_blk rfl ?_
    simp +decide only [mjs_0, mjs_1, mjs_2, mjs_3, mjs_ble, true_and, Bool.false_eq_true, if_false, if_true, Nat.reduceAdd, Nat.reduceSub, Nat.reduceLeDiff, false_implies, true_implies, not_false_eq_true, not_true_eq_false, and_true, mc_sh]
    refine cq_18 (cs := 0) hR hv h hr' (Or.inl rfl) (fun hlt I1 c1 => ?_) full
    have hv1 : gv (K, P, E, N, S, M, C1 C 0, O, L) := gv_C hv (gvC_1 (gv_d hv).2.2.2.2.2.1 hlt (by decide))
    have rT : RM X Rf mb_147 (kr + 10) 0 [some (.ref 36), some (.int (nI (11 - 1))), none, none, none, none, none, none, none] [] (K, P, E, N, S, M, C, O, L) na 220 (cL (11 - 1) C.1) [] (K, P, E, N, S, M, C1 C 0, O, L) na := by
      intro H Lg d nc ns J Q hJ hA hq
      obtain ⟨D, hD, hDk⟩ : ∃ D, d + (kr + 10) = D + 10 ∧ kr ≤ D := ⟨d + kr, by omega, by omega⟩
      rw [hD]
      try rw [hD] at hq
      have j33 : J 36 33 = nI C.1 := (rr_d hJ).2.2.2.2.2.2.1.1
      have ne : ¬ nI C.1 = 100 := fun q => absurd ((nI_eq (b := 100) (by omega) (by decide)).mp q) (by omega)
      have en : vp_nar .boolean (0 : Int32) = 0 := by decide
      unfold cL at hq
      refine mj_blk rfl ?_
      simp +decide only [mjs_0, mjs_1, mjs_2, mjs_3, mjs_ble, true_and, Bool.false_eq_true, if_false, if_true, Nat.reduceAdd, Nat.reduceSub, Nat.reduceLeDiff, false_implies, true_implies, not_false_eq_true, not_true_eq_false, and_true, mm_sh, hm, mjs_up_at, mjs_up_c, mjs_up_f, j33]
      refine ⟨fun _ => mj_blk rfl ?_, fun q => absurd ne q⟩
      simp +decide only [mjs_0, mjs_1, mjs_2, mjs_3, mjs_ble, true_and, Bool.false_eq_true, if_false, if_true, Nat.reduceAdd, Nat.reduceSub, Nat.reduceLeDiff, false_implies, true_implies, not_false_eq_true, not_true_eq_false, and_true, mm_sh, hm, mjs_up_at, mjs_up_c, mjs_up_f, j33]
      refine mj_blk rfl ?_
      simp +decide only [mjs_0, mjs_1, mjs_2, mjs_3, mjs_ble, true_and, Bool.false_eq_true, if_false, if_true, Nat.reduceAdd, Nat.reduceSub, Nat.reduceLeDiff, false_implies, true_implies, not_false_eq_true, not_true_eq_false, and_true, mm_sh, hm, mjs_up_at, mjs_up_c, mjs_up_f]
      refine mj_blk rfl ?_
      simp +decide only [mjs_0, mjs_1, mjs_2, mjs_3, mjs_ble, true_and, Bool.false_eq_true, if_false, if_true, Nat.reduceAdd, Nat.reduceSub, Nat.reduceLeDiff, false_implies, true_implies, not_false_eq_true, not_true_eq_false, and_true, mm_sh, hm, mjs_up_at, mjs_up_c, mjs_up_f, eC, en, j33, nI_1]
      refine ⟨nI_in (by omega) (by decide), nI_in (by omega) (by decide), ?_⟩
      exact mj_nv (hq H _ hx_rf (rr_C1 (cs := 0) hJ) trivial)
    simp +decide only [mjs_0, mjs_1, mjs_2, mjs_3, mjs_ble, true_and, Bool.false_eq_true, if_false, if_true, Nat.reduceAdd, Nat.reduceSub, Nat.reduceLeDiff, false_implies, true_implies, not_false_eq_true, not_true_eq_false, and_true, mc_sh, hr, mjs_up_at, mjs_up_c, mjs_up_f]
    refine mj_blk rfl ?_
    simp +decide only [mjs_0, mjs_1, mjs_2, mjs_3, mjs_ble, true_and, Bool.false_eq_true, if_false, if_true, Nat.reduceAdd, Nat.reduceSub, Nat.reduceLeDiff, false_implies, true_implies, not_false_eq_true, not_true_eq_false, and_true, mc_sh]
    refine h_ifnum (mine := C.1) hR hM' hX hN (by omega) hn hr' hv1 hw hp c1 (fun fb2 K2 P2 N2 S2 Ca L2 I2 b a1 a2 a3 a4 a5 a6 => ?_) (fun g2 I2 a1 a2 => ?_)
    · have hb01 : b = 0 ∨ b = 1 := by omega
      rcases hb01 with rfl | rfl
      · simp +decide only [mjs_0, mjs_1, mjs_2, mjs_3, mjs_ble, true_and, Bool.false_eq_true, if_false, if_true, Nat.reduceAdd, Nat.reduceSub, Nat.reduceLeDiff, false_implies, true_implies, not_false_eq_true, not_true_eq_false, and_true]
        refine mj_blk rfl ?_
        simp +decide only [mjs_0, mjs_1, mjs_2, mjs_3, mjs_ble, true_and, Bool.false_eq_true, if_false, if_true, Nat.reduceAdd, Nat.reduceSub, Nat.reduceLeDiff, false_implies, true_implies, not_false_eq_true, not_true_eq_false, and_true]
        exact mj_nv (tail 0 fb2 K2 P2 N2 S2 Ca L2 I2 (-1) 0 0 hlt a1 a2 a3 a4 (by decide) (Or.inr ⟨rfl, by decide, fun e => absurd e (by decide), fun _ => rfl⟩) (rm_tr rT a6))
      · simp +decide only [mjs_0, mjs_1, mjs_2, mjs_3, mjs_ble, true_and, Bool.false_eq_true, if_false, if_true, Nat.reduceAdd, Nat.reduceSub, Nat.reduceLeDiff, false_implies, true_implies, not_false_eq_true, not_true_eq_false, and_true]
        refine mj_blk rfl ?_
        simp +decide only [mjs_0, mjs_1, mjs_2, mjs_3, mjs_ble, true_and, Bool.false_eq_true, if_false, if_true, Nat.reduceAdd, Nat.reduceSub, Nat.reduceLeDiff, false_implies, true_implies, not_false_eq_true, not_true_eq_false, and_true]
        exact mj_nv (tail 0 fb2 K2 P2 N2 S2 Ca L2 I2 0 1 0 hlt a1 a2 a3 a4 (by decide) (Or.inl ⟨rfl, rfl⟩) (rm_tr rT a6))
    · simp +decide only [mjs_0, mjs_1, mjs_2, mjs_3, mjs_ble, true_and, Bool.false_eq_true, if_false, if_true, Nat.reduceAdd, Nat.reduceSub, Nat.reduceLeDiff, false_implies, true_implies, not_false_eq_true, not_true_eq_false, and_true]
      exact qF g2 I2 a1 (rm_f rT a2)
  · -- code 12
    refine mj_blk rfl ?_
    simp +decide only [mjs_0, mjs_1, mjs_2, mjs_3, mjs_ble, true_and, Bool.false_eq_true, if_false, if_true, Nat.reduceAdd, Nat.reduceSub, Nat.reduceLeDiff, false_implies, true_implies, not_false_eq_true, not_true_eq_false, and_true, mc_sh, hr, mjs_up_at, mjs_up_c, mjs_up_f]
    refine mj_blk rfl ?_
    simp +decide only [mjs_0, mjs_1, mjs_2, mjs_3, mjs_ble, true_and, Bool.false_eq_true, if_false, if_true, Nat.reduceAdd, Nat.reduceSub, Nat.reduceLeDiff, false_implies, true_implies, not_false_eq_true, not_true_eq_false, and_true]
    refine mj_blk rfl ?_
    simp +decide only [mjs_0, mjs_1, mjs_2, mjs_3, mjs_ble, true_and, Bool.false_eq_true, if_false, if_true, Nat.reduceAdd, Nat.reduceSub, Nat.reduceLeDiff, false_implies, true_implies, not_false_eq_true, not_true_eq_false, and_true, mc_sh]
    refine cq_18 (cs := 0) hR hv h hr' (Or.inl rfl) (fun hlt I1 c1 => ?_) full
    have hv1 : gv (K, P, E, N, S, M, C1 C 0, O, L) := gv_C hv (gvC_1 (gv_d hv).2.2.2.2.2.1 hlt (by decide))
    have rT : RM X Rf mb_147 (kr + 10) 0 [some (.ref 36), some (.int (nI (12 - 1))), none, none, none, none, none, none, none] [] (K, P, E, N, S, M, C, O, L) na 228 (cL (12 - 1) C.1) [] (K, P, E, N, S, M, C1 C 0, O, L) na := by
      intro H Lg d nc ns J Q hJ hA hq
      obtain ⟨D, hD, hDk⟩ : ∃ D, d + (kr + 10) = D + 10 ∧ kr ≤ D := ⟨d + kr, by omega, by omega⟩
      rw [hD]
      try rw [hD] at hq
      have j33 : J 36 33 = nI C.1 := (rr_d hJ).2.2.2.2.2.2.1.1
      have ne : ¬ nI C.1 = 100 := fun q => absurd ((nI_eq (b := 100) (by omega) (by decide)).mp q) (by omega)
      have en : vp_nar .boolean (0 : Int32) = 0 := by decide
      unfold cL at hq
      refine mj_blk rfl ?_
      simp +decide only [mjs_0, mjs_1, mjs_2, mjs_3, mjs_ble, true_and, Bool.false_eq_true, if_false, if_true, Nat.reduceAdd, Nat.reduceSub, Nat.reduceLeDiff, false_implies, true_implies, not_false_eq_true, not_true_eq_false, and_true, mm_sh, hm, mjs_up_at, mjs_up_c, mjs_up_f, j33]
      refine ⟨fun _ => mj_blk rfl ?_, fun q => absurd ne q⟩
      simp +decide only [mjs_0, mjs_1, mjs_2, mjs_3, mjs_ble, true_and, Bool.false_eq_true, if_false, if_true, Nat.reduceAdd, Nat.reduceSub, Nat.reduceLeDiff, false_implies, true_implies, not_false_eq_true, not_true_eq_false, and_true, mm_sh, hm, mjs_up_at, mjs_up_c, mjs_up_f, j33]
      refine mj_blk rfl ?_
      simp +decide only [mjs_0, mjs_1, mjs_2, mjs_3, mjs_ble, true_and, Bool.false_eq_true, if_false, if_true, Nat.reduceAdd, Nat.reduceSub, Nat.reduceLeDiff, false_implies, true_implies, not_false_eq_true, not_true_eq_false, and_true, mm_sh, hm, mjs_up_at, mjs_up_c, mjs_up_f]
      refine mj_blk rfl ?_
      simp +decide only [mjs_0, mjs_1, mjs_2, mjs_3, mjs_ble, true_and, Bool.false_eq_true, if_false, if_true, Nat.reduceAdd, Nat.reduceSub, Nat.reduceLeDiff, false_implies, true_implies, not_false_eq_true, not_true_eq_false, and_true, mm_sh, hm, mjs_up_at, mjs_up_c, mjs_up_f, eC, en, j33, nI_1]
      refine ⟨nI_in (by omega) (by decide), nI_in (by omega) (by decide), ?_⟩
      exact mj_nv (hq H _ hx_rf (rr_C1 (cs := 0) hJ) trivial)
    simp +decide only [mjs_0, mjs_1, mjs_2, mjs_3, mjs_ble, true_and, Bool.false_eq_true, if_false, if_true, Nat.reduceAdd, Nat.reduceSub, Nat.reduceLeDiff, false_implies, true_implies, not_false_eq_true, not_true_eq_false, and_true, mc_sh, hr, mjs_up_at, mjs_up_c, mjs_up_f]
    refine mj_blk rfl ?_
    simp +decide only [mjs_0, mjs_1, mjs_2, mjs_3, mjs_ble, true_and, Bool.false_eq_true, if_false, if_true, Nat.reduceAdd, Nat.reduceSub, Nat.reduceLeDiff, false_implies, true_implies, not_false_eq_true, not_true_eq_false, and_true, mc_sh]
    refine h_ifodd (mine := C.1) hR hM' hX hN (by omega) hn hr' hv1 hw hp c1 (fun fb2 K2 P2 N2 S2 Ca L2 I2 b a1 a2 a3 a4 a5 a6 => ?_) (fun g2 I2 a1 a2 => ?_)
    · have hb01 : b = 0 ∨ b = 1 := by omega
      rcases hb01 with rfl | rfl
      · simp +decide only [mjs_0, mjs_1, mjs_2, mjs_3, mjs_ble, true_and, Bool.false_eq_true, if_false, if_true, Nat.reduceAdd, Nat.reduceSub, Nat.reduceLeDiff, false_implies, true_implies, not_false_eq_true, not_true_eq_false, and_true]
        refine mj_blk rfl ?_
        simp +decide only [mjs_0, mjs_1, mjs_2, mjs_3, mjs_ble, true_and, Bool.false_eq_true, if_false, if_true, Nat.reduceAdd, Nat.reduceSub, Nat.reduceLeDiff, false_implies, true_implies, not_false_eq_true, not_true_eq_false, and_true]
        exact mj_nv (tail 0 fb2 K2 P2 N2 S2 Ca L2 I2 (-1) 0 0 hlt a1 a2 a3 a4 (by decide) (Or.inr ⟨rfl, by decide, fun e => absurd e (by decide), fun _ => rfl⟩) (rm_tr rT a6))
      · simp +decide only [mjs_0, mjs_1, mjs_2, mjs_3, mjs_ble, true_and, Bool.false_eq_true, if_false, if_true, Nat.reduceAdd, Nat.reduceSub, Nat.reduceLeDiff, false_implies, true_implies, not_false_eq_true, not_true_eq_false, and_true]
        refine mj_blk rfl ?_
        simp +decide only [mjs_0, mjs_1, mjs_2, mjs_3, mjs_ble, true_and, Bool.false_eq_true, if_false, if_true, Nat.reduceAdd, Nat.reduceSub, Nat.reduceLeDiff, false_implies, true_implies, not_false_eq_true, not_true_eq_false, and_true]
        exact mj_nv (tail 0 fb2 K2 P2 N2 S2 Ca L2 I2 0 1 0 hlt a1 a2 a3 a4 (by decide) (Or.inl ⟨rfl, rfl⟩) (rm_tr rT a6))
    · simp +decide only [mjs_0, mjs_1, mjs_2, mjs_3, mjs_ble, true_and, Bool.false_eq_true, if_false, if_true, Nat.reduceAdd, Nat.reduceSub, Nat.reduceLeDiff, false_implies, true_implies, not_false_eq_true, not_true_eq_false, and_true]
      exact qF g2 I2 a1 (rm_f rT a2)
  · -- code 13
    refine mj_blk rfl ?_
    simp +decide only [mjs_0, mjs_1, mjs_2, mjs_3, mjs_ble, true_and, Bool.false_eq_true, if_false, if_true, Nat.reduceAdd, Nat.reduceSub, Nat.reduceLeDiff, false_implies, true_implies, not_false_eq_true, not_true_eq_false, and_true, mc_sh, hr, mjs_up_at, mjs_up_c, mjs_up_f]
    refine mj_blk rfl ?_
    simp +decide only [mjs_0, mjs_1, mjs_2, mjs_3, mjs_ble, true_and, Bool.false_eq_true, if_false, if_true, Nat.reduceAdd, Nat.reduceSub, Nat.reduceLeDiff, false_implies, true_implies, not_false_eq_true, not_true_eq_false, and_true]
    refine mj_blk rfl ?_
    simp +decide only [mjs_0, mjs_1, mjs_2, mjs_3, mjs_ble, true_and, Bool.false_eq_true, if_false, if_true, Nat.reduceAdd, Nat.reduceSub, Nat.reduceLeDiff, false_implies, true_implies, not_false_eq_true, not_true_eq_false, and_true, mc_sh]
    refine cq_18 (cs := 0) hR hv h hr' (Or.inl rfl) (fun hlt I1 c1 => ?_) full
    have hv1 : gv (K, P, E, N, S, M, C1 C 0, O, L) := gv_C hv (gvC_1 (gv_d hv).2.2.2.2.2.1 hlt (by decide))
    have rT : RM X Rf mb_147 (kr + 10) 0 [some (.ref 36), some (.int (nI (13 - 1))), none, none, none, none, none, none, none] [] (K, P, E, N, S, M, C, O, L) na 266 (cL (13 - 1) C.1) [] (K, P, E, N, S, M, C1 C 0, O, L) na := by
      intro H Lg d nc ns J Q hJ hA hq
      obtain ⟨D, hD, hDk⟩ : ∃ D, d + (kr + 10) = D + 10 ∧ kr ≤ D := ⟨d + kr, by omega, by omega⟩
      rw [hD]
      try rw [hD] at hq
      have j33 : J 36 33 = nI C.1 := (rr_d hJ).2.2.2.2.2.2.1.1
      have ne : ¬ nI C.1 = 100 := fun q => absurd ((nI_eq (b := 100) (by omega) (by decide)).mp q) (by omega)
      have en : vp_nar .boolean (0 : Int32) = 0 := by decide
      unfold cL at hq
      refine mj_blk rfl ?_
      simp +decide only [mjs_0, mjs_1, mjs_2, mjs_3, mjs_ble, true_and, Bool.false_eq_true, if_false, if_true, Nat.reduceAdd, Nat.reduceSub, Nat.reduceLeDiff, false_implies, true_implies, not_false_eq_true, not_true_eq_false, and_true, mm_sh, hm, mjs_up_at, mjs_up_c, mjs_up_f, j33]
      refine ⟨fun _ => mj_blk rfl ?_, fun q => absurd ne q⟩
      simp +decide only [mjs_0, mjs_1, mjs_2, mjs_3, mjs_ble, true_and, Bool.false_eq_true, if_false, if_true, Nat.reduceAdd, Nat.reduceSub, Nat.reduceLeDiff, false_implies, true_implies, not_false_eq_true, not_true_eq_false, and_true, mm_sh, hm, mjs_up_at, mjs_up_c, mjs_up_f, j33]
      refine mj_blk rfl ?_
      simp +decide only [mjs_0, mjs_1, mjs_2, mjs_3, mjs_ble, true_and, Bool.false_eq_true, if_false, if_true, Nat.reduceAdd, Nat.reduceSub, Nat.reduceLeDiff, false_implies, true_implies, not_false_eq_true, not_true_eq_false, and_true, mm_sh, hm, mjs_up_at, mjs_up_c, mjs_up_f]
      refine mj_blk rfl ?_
      simp +decide only [mjs_0, mjs_1, mjs_2, mjs_3, mjs_ble, true_and, Bool.false_eq_true, if_false, if_true, Nat.reduceAdd, Nat.reduceSub, Nat.reduceLeDiff, false_implies, true_implies, not_false_eq_true, not_true_eq_false, and_true, mm_sh, hm, mjs_up_at, mjs_up_c, mjs_up_f, eC, en, j33, nI_1]
      refine ⟨nI_in (by omega) (by decide), nI_in (by omega) (by decide), ?_⟩
      exact mj_nv (hq H _ hx_rf (rr_C1 (cs := 0) hJ) trivial)
    simp +decide only [mjs_0, mjs_1, mjs_2, mjs_3, mjs_ble, true_and, Bool.false_eq_true, if_false, if_true, Nat.reduceAdd, Nat.reduceSub, Nat.reduceLeDiff, false_implies, true_implies, not_false_eq_true, not_true_eq_false, and_true, mc_sh, hr, mjs_up_at, mjs_up_c, mjs_up_f]
    refine mj_blk rfl ?_
    simp +decide only [mjs_0, mjs_1, mjs_2, mjs_3, mjs_ble, true_and, Bool.false_eq_true, if_false, if_true, Nat.reduceAdd, Nat.reduceSub, Nat.reduceLeDiff, false_implies, true_implies, not_false_eq_true, not_true_eq_false, and_true, mc_sh]
    refine h_iftrue (mine := C.1) hR hM' hX hN (by omega) hn hr' hv1 hw hp c1 (fun fb2 K2 P2 N2 S2 Ca L2 I2 b a1 a2 a3 a4 a5 a6 => ?_) (fun g2 I2 a1 a2 => ?_)
    · have hb01 : b = 0 ∨ b = 1 := by omega
      rcases hb01 with rfl | rfl
      · simp +decide only [mjs_0, mjs_1, mjs_2, mjs_3, mjs_ble, true_and, Bool.false_eq_true, if_false, if_true, Nat.reduceAdd, Nat.reduceSub, Nat.reduceLeDiff, false_implies, true_implies, not_false_eq_true, not_true_eq_false, and_true]
        refine mj_blk rfl ?_
        simp +decide only [mjs_0, mjs_1, mjs_2, mjs_3, mjs_ble, true_and, Bool.false_eq_true, if_false, if_true, Nat.reduceAdd, Nat.reduceSub, Nat.reduceLeDiff, false_implies, true_implies, not_false_eq_true, not_true_eq_false, and_true]
        exact mj_nv (tail 0 fb2 K2 P2 N2 S2 Ca L2 I2 (-1) 0 0 hlt a1 a2 a3 a4 (by decide) (Or.inr ⟨rfl, by decide, fun e => absurd e (by decide), fun _ => rfl⟩) (rm_tr rT a6))
      · simp +decide only [mjs_0, mjs_1, mjs_2, mjs_3, mjs_ble, true_and, Bool.false_eq_true, if_false, if_true, Nat.reduceAdd, Nat.reduceSub, Nat.reduceLeDiff, false_implies, true_implies, not_false_eq_true, not_true_eq_false, and_true]
        refine mj_blk rfl ?_
        simp +decide only [mjs_0, mjs_1, mjs_2, mjs_3, mjs_ble, true_and, Bool.false_eq_true, if_false, if_true, Nat.reduceAdd, Nat.reduceSub, Nat.reduceLeDiff, false_implies, true_implies, not_false_eq_true, not_true_eq_false, and_true]
        exact mj_nv (tail 0 fb2 K2 P2 N2 S2 Ca L2 I2 0 1 0 hlt a1 a2 a3 a4 (by decide) (Or.inl ⟨rfl, rfl⟩) (rm_tr rT a6))
    · simp +decide only [mjs_0, mjs_1, mjs_2, mjs_3, mjs_ble, true_and, Bool.false_eq_true, if_false, if_true, Nat.reduceAdd, Nat.reduceSub, Nat.reduceLeDiff, false_implies, true_implies, not_false_eq_true, not_true_eq_false, and_true]
      exact qF g2 I2 a1 (rm_f rT a2)
  · -- code 14
    refine mj_blk rfl ?_
    simp +decide only [mjs_0, mjs_1, mjs_2, mjs_3, mjs_ble, true_and, Bool.false_eq_true, if_false, if_true, Nat.reduceAdd, Nat.reduceSub, Nat.reduceLeDiff, false_implies, true_implies, not_false_eq_true, not_true_eq_false, and_true, mc_sh, hr, mjs_up_at, mjs_up_c, mjs_up_f]
    refine mj_blk rfl ?_
    simp +decide only [mjs_0, mjs_1, mjs_2, mjs_3, mjs_ble, true_and, Bool.false_eq_true, if_false, if_true, Nat.reduceAdd, Nat.reduceSub, Nat.reduceLeDiff, false_implies, true_implies, not_false_eq_true, not_true_eq_false, and_true]
    refine mj_blk rfl ?_
    simp +decide only [mjs_0, mjs_1, mjs_2, mjs_3, mjs_ble, true_and, Bool.false_eq_true, if_false, if_true, Nat.reduceAdd, Nat.reduceSub, Nat.reduceLeDiff, false_implies, true_implies, not_false_eq_true, not_true_eq_false, and_true, mc_sh]
    refine cq_18 (cs := 0) hR hv h hr' (Or.inl rfl) (fun hlt I1 c1 => ?_) full
    have hv1 : gv (K, P, E, N, S, M, C1 C 0, O, L) := gv_C hv (gvC_1 (gv_d hv).2.2.2.2.2.1 hlt (by decide))
    have rT : RM X Rf mb_147 (kr + 10) 0 [some (.ref 36), some (.int (nI (14 - 1))), none, none, none, none, none, none, none] [] (K, P, E, N, S, M, C, O, L) na 266 (cL (14 - 1) C.1) [] (K, P, E, N, S, M, C1 C 0, O, L) na := by
      intro H Lg d nc ns J Q hJ hA hq
      obtain ⟨D, hD, hDk⟩ : ∃ D, d + (kr + 10) = D + 10 ∧ kr ≤ D := ⟨d + kr, by omega, by omega⟩
      rw [hD]
      try rw [hD] at hq
      have j33 : J 36 33 = nI C.1 := (rr_d hJ).2.2.2.2.2.2.1.1
      have ne : ¬ nI C.1 = 100 := fun q => absurd ((nI_eq (b := 100) (by omega) (by decide)).mp q) (by omega)
      have en : vp_nar .boolean (0 : Int32) = 0 := by decide
      unfold cL at hq
      refine mj_blk rfl ?_
      simp +decide only [mjs_0, mjs_1, mjs_2, mjs_3, mjs_ble, true_and, Bool.false_eq_true, if_false, if_true, Nat.reduceAdd, Nat.reduceSub, Nat.reduceLeDiff, false_implies, true_implies, not_false_eq_true, not_true_eq_false, and_true, mm_sh, hm, mjs_up_at, mjs_up_c, mjs_up_f, j33]
      refine ⟨fun _ => mj_blk rfl ?_, fun q => absurd ne q⟩
      simp +decide only [mjs_0, mjs_1, mjs_2, mjs_3, mjs_ble, true_and, Bool.false_eq_true, if_false, if_true, Nat.reduceAdd, Nat.reduceSub, Nat.reduceLeDiff, false_implies, true_implies, not_false_eq_true, not_true_eq_false, and_true, mm_sh, hm, mjs_up_at, mjs_up_c, mjs_up_f, j33]
      refine mj_blk rfl ?_
      simp +decide only [mjs_0, mjs_1, mjs_2, mjs_3, mjs_ble, true_and, Bool.false_eq_true, if_false, if_true, Nat.reduceAdd, Nat.reduceSub, Nat.reduceLeDiff, false_implies, true_implies, not_false_eq_true, not_true_eq_false, and_true, mm_sh, hm, mjs_up_at, mjs_up_c, mjs_up_f]
      refine mj_blk rfl ?_
      simp +decide only [mjs_0, mjs_1, mjs_2, mjs_3, mjs_ble, true_and, Bool.false_eq_true, if_false, if_true, Nat.reduceAdd, Nat.reduceSub, Nat.reduceLeDiff, false_implies, true_implies, not_false_eq_true, not_true_eq_false, and_true, mm_sh, hm, mjs_up_at, mjs_up_c, mjs_up_f, eC, en, j33, nI_1]
      refine ⟨nI_in (by omega) (by decide), nI_in (by omega) (by decide), ?_⟩
      exact mj_nv (hq H _ hx_rf (rr_C1 (cs := 0) hJ) trivial)
    simp +decide only [mjs_0, mjs_1, mjs_2, mjs_3, mjs_ble, true_and, Bool.false_eq_true, if_false, if_true, Nat.reduceAdd, Nat.reduceSub, Nat.reduceLeDiff, false_implies, true_implies, not_false_eq_true, not_true_eq_false, and_true, mc_sh, hr, mjs_up_at, mjs_up_c, mjs_up_f]
    refine mj_blk rfl ?_
    simp +decide only [mjs_0, mjs_1, mjs_2, mjs_3, mjs_ble, true_and, Bool.false_eq_true, if_false, if_true, Nat.reduceAdd, Nat.reduceSub, Nat.reduceLeDiff, false_implies, true_implies, not_false_eq_true, not_true_eq_false, and_true, mc_sh]
    refine h_iffalse (mine := C.1) hR hM' hX hN (by omega) hn hr' hv1 hw hp c1 (fun fb2 K2 P2 N2 S2 Ca L2 I2 b a1 a2 a3 a4 a5 a6 => ?_) (fun g2 I2 a1 a2 => ?_)
    · have hb01 : b = 0 ∨ b = 1 := by omega
      rcases hb01 with rfl | rfl
      · simp +decide only [mjs_0, mjs_1, mjs_2, mjs_3, mjs_ble, true_and, Bool.false_eq_true, if_false, if_true, Nat.reduceAdd, Nat.reduceSub, Nat.reduceLeDiff, false_implies, true_implies, not_false_eq_true, not_true_eq_false, and_true]
        refine mj_blk rfl ?_
        simp +decide only [mjs_0, mjs_1, mjs_2, mjs_3, mjs_ble, true_and, Bool.false_eq_true, if_false, if_true, Nat.reduceAdd, Nat.reduceSub, Nat.reduceLeDiff, false_implies, true_implies, not_false_eq_true, not_true_eq_false, and_true]
        exact mj_nv (tail 0 fb2 K2 P2 N2 S2 Ca L2 I2 (-1) 0 0 hlt a1 a2 a3 a4 (by decide) (Or.inr ⟨rfl, by decide, fun e => absurd e (by decide), fun _ => rfl⟩) (rm_tr rT a6))
      · simp +decide only [mjs_0, mjs_1, mjs_2, mjs_3, mjs_ble, true_and, Bool.false_eq_true, if_false, if_true, Nat.reduceAdd, Nat.reduceSub, Nat.reduceLeDiff, false_implies, true_implies, not_false_eq_true, not_true_eq_false, and_true]
        refine mj_blk rfl ?_
        simp +decide only [mjs_0, mjs_1, mjs_2, mjs_3, mjs_ble, true_and, Bool.false_eq_true, if_false, if_true, Nat.reduceAdd, Nat.reduceSub, Nat.reduceLeDiff, false_implies, true_implies, not_false_eq_true, not_true_eq_false, and_true]
        exact mj_nv (tail 0 fb2 K2 P2 N2 S2 Ca L2 I2 0 1 0 hlt a1 a2 a3 a4 (by decide) (Or.inl ⟨rfl, rfl⟩) (rm_tr rT a6))
    · simp +decide only [mjs_0, mjs_1, mjs_2, mjs_3, mjs_ble, true_and, Bool.false_eq_true, if_false, if_true, Nat.reduceAdd, Nat.reduceSub, Nat.reduceLeDiff, false_implies, true_implies, not_false_eq_true, not_true_eq_false, and_true]
      exact qF g2 I2 a1 (rm_f rT a2)
  · -- ifcase
    refine mj_blk rfl ?_
    simp +decide only [mjs_0, mjs_1, mjs_2, mjs_3, mjs_ble, true_and, Bool.false_eq_true, if_false, if_true, Nat.reduceAdd, Nat.reduceSub, Nat.reduceLeDiff, false_implies, true_implies, not_false_eq_true, not_true_eq_false, and_true, mc_sh, hr, mjs_up_at, mjs_up_c, mjs_up_f]
    refine mj_blk rfl ?_
    simp +decide only [mjs_0, mjs_1, mjs_2, mjs_3, mjs_ble, true_and, Bool.false_eq_true, if_false, if_true, Nat.reduceAdd, Nat.reduceSub, Nat.reduceLeDiff, false_implies, true_implies, not_false_eq_true, not_true_eq_false, and_true]
    refine mj_blk rfl ?_
    simp +decide only [mjs_0, mjs_1, mjs_2, mjs_3, mjs_ble, true_and, Bool.false_eq_true, if_false, if_true, Nat.reduceAdd, Nat.reduceSub, Nat.reduceLeDiff, false_implies, true_implies, not_false_eq_true, not_true_eq_false, and_true, mc_sh]
    refine cq_18 (cs := 1) hR hv h hr' (Or.inr rfl) (fun hlt I1 c1 => ?_) full
    have hv1 : gv (K, P, E, N, S, M, C1 C 1, O, L) := gv_C hv (gvC_1 (gv_d hv).2.2.2.2.2.1 hlt (by decide))
    have rT : RM X Rf mb_147 (kr + 10) 0 [some (.ref 36), some (.int (nI (15 - 1))), none, none, none, none, none, none, none] [] (K, P, E, N, S, M, C, O, L) na 246 (cL (15 - 1) C.1) [] (K, P, E, N, S, M, C1 C 1, O, L) na := by
      intro H Lg d nc ns J Q hJ hA hq
      obtain ⟨D, hD, hDk⟩ : ∃ D, d + (kr + 10) = D + 10 ∧ kr ≤ D := ⟨d + kr, by omega, by omega⟩
      rw [hD]
      try rw [hD] at hq
      have j33 : J 36 33 = nI C.1 := (rr_d hJ).2.2.2.2.2.2.1.1
      have ne : ¬ nI C.1 = 100 := fun q => absurd ((nI_eq (b := 100) (by omega) (by decide)).mp q) (by omega)
      have en : vp_nar .boolean (1 : Int32) = 1 := by decide
      unfold cL at hq
      refine mj_blk rfl ?_
      simp +decide only [mjs_0, mjs_1, mjs_2, mjs_3, mjs_ble, true_and, Bool.false_eq_true, if_false, if_true, Nat.reduceAdd, Nat.reduceSub, Nat.reduceLeDiff, false_implies, true_implies, not_false_eq_true, not_true_eq_false, and_true, mm_sh, hm, mjs_up_at, mjs_up_c, mjs_up_f, j33]
      refine ⟨fun _ => mj_blk rfl ?_, fun q => absurd ne q⟩
      simp +decide only [mjs_0, mjs_1, mjs_2, mjs_3, mjs_ble, true_and, Bool.false_eq_true, if_false, if_true, Nat.reduceAdd, Nat.reduceSub, Nat.reduceLeDiff, false_implies, true_implies, not_false_eq_true, not_true_eq_false, and_true, mm_sh, hm, mjs_up_at, mjs_up_c, mjs_up_f, j33]
      refine mj_blk rfl ?_
      simp +decide only [mjs_0, mjs_1, mjs_2, mjs_3, mjs_ble, true_and, Bool.false_eq_true, if_false, if_true, Nat.reduceAdd, Nat.reduceSub, Nat.reduceLeDiff, false_implies, true_implies, not_false_eq_true, not_true_eq_false, and_true, mm_sh, hm, mjs_up_at, mjs_up_c, mjs_up_f]
      refine mj_blk rfl ?_
      simp +decide only [mjs_0, mjs_1, mjs_2, mjs_3, mjs_ble, true_and, Bool.false_eq_true, if_false, if_true, Nat.reduceAdd, Nat.reduceSub, Nat.reduceLeDiff, false_implies, true_implies, not_false_eq_true, not_true_eq_false, and_true, mm_sh, hm, mjs_up_at, mjs_up_c, mjs_up_f, eC, en, j33, nI_1]
      refine ⟨nI_in (by omega) (by decide), nI_in (by omega) (by decide), ?_⟩
      exact mj_nv (hq H _ hx_rf (rr_C1 (cs := 1) hJ) trivial)
    simp +decide only [mjs_0, mjs_1, mjs_2, mjs_3, mjs_ble, true_and, Bool.false_eq_true, if_false, if_true, Nat.reduceAdd, Nat.reduceSub, Nat.reduceLeDiff, false_implies, true_implies, not_false_eq_true, not_true_eq_false, and_true, mc_sh, hr, mjs_up_at, mjs_up_c, mjs_up_f]
    refine mj_blk rfl ?_
    simp +decide only [mjs_0, mjs_1, mjs_2, mjs_3, mjs_ble, true_and, Bool.false_eq_true, if_false, if_true, Nat.reduceAdd, Nat.reduceSub, Nat.reduceLeDiff, false_implies, true_implies, not_false_eq_true, not_true_eq_false, and_true, mc_sh]
    refine hN fb K P E N S M (C1 C 1) O L nc ns Lg I1 _ (d + 8) (by omega) hn hr' hv1 hw hp c1 (fun fb2 K2 P2 N2 S2 Ca L2 I2 x a1 a2 a3 a4 a5 a6 => ?_) (fun g2 I2 a1 a2 => ?_)
    · simp +decide only [mjs_0, mjs_1, mjs_2, mjs_3, mjs_ble, true_and, Bool.false_eq_true, if_false, if_true, Nat.reduceAdd, Nat.reduceSub, Nat.reduceLeDiff, false_implies, true_implies, not_false_eq_true, not_true_eq_false, and_true]
      have hbx : ∃ b, (b = 1 ∧ x = 0 ∨ b = 0 ∧ x ≠ 0) := by
        by_cases e : x = 0
        · exact ⟨1, Or.inl ⟨rfl, e⟩⟩
        · exact ⟨0, Or.inr ⟨rfl, e⟩⟩
      obtain ⟨b, hb⟩ := hbx
      refine mj_nv (tail 1 fb2 K2 P2 N2 S2 Ca L2 I2 x b x hlt a1 a2 a3 a4 a5 (by
        rcases hb with hb | hb
        · exact Or.inl hb
        · exact Or.inr ⟨hb.1, hb.2, fun _ => rfl, fun e => absurd rfl e⟩) (rm_tr rT ?_))
      intro H Lg d nc ns J Q hJ hA hq
      obtain ⟨D, hD, hDk⟩ : ∃ D, d + (kr + 10) = D + 10 ∧ kr ≤ D := ⟨d + kr, by omega, by omega⟩
      rw [hD]
      try rw [hD] at hq
      unfold cE at hq
      unfold cL
      refine mj_blk rfl ?_
      simp +decide only [mjs_0, mjs_1, mjs_2, mjs_3, mjs_ble, true_and, Bool.false_eq_true, if_false, if_true, Nat.reduceAdd, Nat.reduceSub, Nat.reduceLeDiff, false_implies, true_implies, not_false_eq_true, not_true_eq_false, and_true, mm_sh, hm, mjs_up_at, mjs_up_c, mjs_up_f]
      refine rx_at a6 (by omega) hJ trivial (fun H1 J1 c1 c2 _ => ?_)
      have hq2 := hq H1 J1 c1 c2 trivial
      simp +decide only [mjs_0, mjs_1, mjs_2, mjs_3, mjs_ble, true_and, Bool.false_eq_true, if_false, if_true, Nat.reduceAdd, Nat.reduceSub, Nat.reduceLeDiff, false_implies, true_implies, not_false_eq_true, not_true_eq_false, and_true, mm_sh, hm, mjs_up_at, mjs_up_c, mjs_up_f]
      rcases hb with ⟨rfl, e⟩ | ⟨rfl, e⟩
      · refine ⟨fun q => absurd e q, fun _ => mj_blk rfl ?_⟩
        simp +decide only [mjs_0, mjs_1, mjs_2, mjs_3, mjs_ble, true_and, Bool.false_eq_true, if_false, if_true, Nat.reduceAdd, Nat.reduceSub, Nat.reduceLeDiff, false_implies, true_implies, not_false_eq_true, not_true_eq_false, and_true, mm_sh, hm, mjs_up_at, mjs_up_c, mjs_up_f]
        refine mj_blk rfl ?_
        simp +decide only [mjs_0, mjs_1, mjs_2, mjs_3, mjs_ble, true_and, Bool.false_eq_true, if_false, if_true, Nat.reduceAdd, Nat.reduceSub, Nat.reduceLeDiff, false_implies, true_implies, not_false_eq_true, not_true_eq_false, and_true, mm_sh, hm, mjs_up_at, mjs_up_c, mjs_up_f]
        exact mj_nv hq2
      · refine ⟨fun _ => mj_blk rfl ?_, fun q => absurd e q⟩
        simp +decide only [mjs_0, mjs_1, mjs_2, mjs_3, mjs_ble, true_and, Bool.false_eq_true, if_false, if_true, Nat.reduceAdd, Nat.reduceSub, Nat.reduceLeDiff, false_implies, true_implies, not_false_eq_true, not_true_eq_false, and_true, mm_sh, hm, mjs_up_at, mjs_up_c, mjs_up_f]
        refine mj_blk rfl ?_
        simp +decide only [mjs_0, mjs_1, mjs_2, mjs_3, mjs_ble, true_and, Bool.false_eq_true, if_false, if_true, Nat.reduceAdd, Nat.reduceSub, Nat.reduceLeDiff, false_implies, true_implies, not_false_eq_true, not_true_eq_false, and_true, mm_sh, hm, mjs_up_at, mjs_up_c, mjs_up_f]
        exact mj_nv hq2
    · simp +decide only [mjs_0, mjs_1, mjs_2, mjs_3, mjs_ble, true_and, Bool.false_eq_true, if_false, if_true, Nat.reduceAdd, Nat.reduceSub, Nat.reduceLeDiff, false_implies, true_implies, not_false_eq_true, not_true_eq_false, and_true]
      refine qF g2 I2 a1 (rm_f rT ?_)
      intro H Lg d nc ns J Q hJ hA hq
      obtain ⟨D, hD, hDk⟩ : ∃ D, d + (kr + 10) = D + 10 ∧ kr ≤ D := ⟨d + kr, by omega, by omega⟩
      rw [hD]
      try rw [hD] at hq
      unfold cL
      refine mj_blk rfl ?_
      simp +decide only [mjs_0, mjs_1, mjs_2, mjs_3, mjs_ble, true_and, Bool.false_eq_true, if_false, if_true, Nat.reduceAdd, Nat.reduceSub, Nat.reduceLeDiff, false_implies, true_implies, not_false_eq_true, not_true_eq_false, and_true, mm_sh, hm, mjs_up_at, mjs_up_c, mjs_up_f]
      refine ry_at a2 (by omega) hJ trivial (fun J1 c1 => ?_)
      simp +decide only [mjs_0, mjs_1, mjs_2, mjs_3, mjs_ble, true_and, Bool.false_eq_true, if_false, if_true, Nat.reduceAdd, Nat.reduceSub, Nat.reduceLeDiff, false_implies, true_implies, not_false_eq_true, not_true_eq_false, and_true, mm_sh, hm, mjs_up_at, mjs_up_c, mjs_up_f]
      refine mj_blk rfl ?_
      simp +decide only [mjs_0, mjs_1, mjs_2, mjs_3, mjs_ble, true_and, Bool.false_eq_true, if_false, if_true, Nat.reduceAdd, Nat.reduceSub, Nat.reduceLeDiff, false_implies, true_implies, not_false_eq_true, not_true_eq_false, and_true, mm_sh, hm, mjs_up_at, mjs_up_c, mjs_up_f]
      refine mj_blk rfl ?_
      simp +decide only [mjs_0, mjs_1, mjs_2, mjs_3, mjs_ble, true_and, Bool.false_eq_true, if_false, if_true, Nat.reduceAdd, Nat.reduceSub, Nat.reduceLeDiff, false_implies, true_implies, not_false_eq_true, not_true_eq_false, and_true, mm_sh, hm, mjs_up_at, mjs_up_c, mjs_up_f]
      exact mj_nv (f_147 (p := 14) (b := 1) (x := 0) hM' c1 hq)
end MJCN
