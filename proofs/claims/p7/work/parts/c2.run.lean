/-! A RUN'S END, in both -/
/-- between calls: the class; the reference -/
def IDC (vb : Nat → Int32) (tk n : Nat) (tx : Nat → Nat) (O : sgO) (cn : Nat → Int32) (I : Nat → Nat → Int32) : Prop := I 1 1 = nI tk ∧ (I 17 1 = nI n ∧ n ≤ 4000 ∧ ∀ j, j < n → I 18 j = nI (tx j) ∧ tx j < 256) ∧ (rcO O I ∧ gvO O) ∧ (∃ N, rcN N I ∧ gvN N) ∧ rcY vb I ∧ (∃ S : sgS, rcS S I ∧ S.2.2.1 = 0 ∧ S.2.2.2 = 0 ∧ ∀ k, k < 256 → S.1 0 k = cn k) ∧ ∃ s, s ≤ 2 ∧ I 17 5 = nI s
def IDR (H : Nat → Nat → Int32) (tk n : Nat) (tx : Nat → Nat) (O : sgO) (cn : Nat → Int32) (J : Nat → Nat → Int32) : Prop := J 36 36 = nI tk ∧ (J 36 1 = nI n ∧ ∀ j, j < n → J 37 j = bt (tx j)) ∧ rrO O J ∧ (∀ c, c < 256 → J 46 c = cn c) ∧ ∀ c, c < 36 → J c = H c
/-- from its loop the reference comes to an end with these ticks, this OUT, these counters -/
def RE (X : mj_X) (Rf : Nat → Nat → Option Nat) (k : Nat) (g : sg) (tk : Nat) (O : sgO) (cn : Nat → Int32) : Prop := ∀ (H : Nat → Nat → Int32) (Lg : Nat → Nat → Int64) (d nc ns : Nat) (J : Nat → Nat → Int32) (t : Int32) (w : Option Value) (Q : mj_Q), RR H g J → (∀ J' v, IDR H tk 0 (fun _ => 0) O cn J' → Q (.inl (some (.int v))) (sh59, J', Lg, Rf, nc, ns)) → mj_rn X (mj_hd []) (mj_call X mj_P (mj_bi X) (d + k)) mb_178 38 [some (.ref 36), some (.int t), w] [] (sh59, J, Lg, Rf, nc, ns) Q
section MJRN
variable {X : mj_X} {d nc ns : Nat} {Q : mj_Q} {I I' J J' H : Nat → Nat → Int32} {Lg : Nat → Nat → Int64} {Rf : Nat → Nat → Option Nat} {fb fb' : Nat → Nat → Int32} {vb : Nat → Int32} {K K' K'' : Nat × Nat × Nat} {P P' P'' : List Nat} {E : sgE} {N N' N'' : sgN} {S S' S'' : sgS} {M : sgM} {C C' C'' : sgC} {O O' : sgO} {L L' L'' : sgL} {t n kc kr c gl v b s' k : Nat} {g g' : sg}
theorem rc_f0 (hv : gv g) (h : RC fb vb g I) : RCf fb vb g I := by
  obtain ⟨hK, hP, hE, hN, hS, hM, hC, hO, hL, hZ⟩ := h
  exact ⟨hK.1, hN, hS, hO, hZ.2, hv.2.2.1, hv.2.2.2.2.2.2.1, _, hv.2.2.2.2.2.2.2.1.2.2.1, hL.2.2.1⟩
/-- the class's end -/
theorem ct_129 (hR : mj_Rt mp_R Rf) {f : Int32} {w1 w3 w4 w5 : Option Value} {D : Nat} (h : RCf fb vb g I) (hQ : ∀ I' v, IDC vb g.1.1 0 (fun _ => 0) g.2.2.2.2.2.2.2.1 (g.2.2.2.2.1.1 0) I' → Q (.inl (some (.int v))) (sh59, I', Lg, Rf, nc, ns)) : mj_rn X (mj_hd [(11, 117, 120, 500, 3, 121)]) (mj_call X mj_P (mj_bi X) (D + 2)) mb_2 129 [some (.ref 0), w1, some (.int f), w3, w4, w5] [] (sh59, I, Lg, Rf, nc, ns) Q := by
  have hr := mc_rf hR
  obtain ⟨h1, hN, ⟨Lv, sl, le, gs, ⟨hS, hS0⟩, hT⟩, hO, hY, hgN, hgO, s, hs1, hs2⟩ := h
  refine mj_blk rfl ?_
  simp +decide only [mjs_0, mjs_1, mjs_2, mjs_3, mjs_ble, true_and, Bool.false_eq_true, if_false, if_true, Nat.reduceAdd, Nat.reduceSub, Nat.reduceLeDiff, false_implies, true_implies, not_false_eq_true, not_true_eq_false, and_true, mc_sh, hr, mjs_up_at, mjs_up_c, mjs_up_f]
  refine c_101 hR hS (fun I' Lv' s' a1 a2 a3 a4 a5 a6 a7 => ?_)
  have es : s' = 0 := by
    unfold lv_g at hS0
    by_cases e : 0 < g.2.2.2.2.1.2.2.1
    · rw [if_pos e] at hS0
      rw [a3 e]
      exact hS0
    · rw [if_neg e] at hS0
      rw [a4 (by omega)]
      exact hS0
  subst es
  have fin : IDC vb g.1.1 0 (fun _ => 0) g.2.2.2.2.2.2.2.1 (g.2.2.2.2.1.1 0) (mj_up I' 17 1 0) := by
    have e3 : ∀ c q, mxm [9, 10, 12, 13, 14, 15, 16, 17] c = false → mj_up I' 17 1 0 c q = I c q := fun c q hb => by
      rw [mjs_up_c (mxm_ne hb (by decide))]
      exact a5 c q (mxm_ne hb (by decide)) (mxm_ne hb (by decide)) (mxm_ne hb (by decide))
    refine mx_on (IDC vb g.1.1 0 (fun _ => 0) g.2.2.2.2.2.2.2.1 (g.2.2.2.2.1.1 0)) [9, 10, 12, 13, 14, 15, 16, 17] e3 ?_
    refine ⟨h1, ⟨rfl, Nat.zero_le _, fun j hj => absurd hj (Nat.not_lt_zero _)⟩, ⟨hO, hgO⟩, ⟨_, hN, hgN⟩, hY, ⟨(g.2.2.2.2.1.1, g.2.2.2.2.1.2.1, 0, 0), ⟨Lv', sl, le, gs, ⟨a1, rfl⟩, fun l z hl hz => ?_⟩, rfl, rfl, fun _ _ => rfl⟩, s, hs1, ?_⟩
    · obtain rfl : l = 0 := Nat.le_zero.mp hl
      have e7 : I' 10 z = g.2.2.2.2.1.1 0 z := by
        rw [a7]
        exact hT 0 z (Nat.zero_le _) hz
      exact e7
    · show mj_up I' 17 1 0 17 5 = nI s
      rw [mjs_up_ne (Or.inr (by decide)), a5 17 5 (by decide) (by decide) (by decide)]
      exact hs2
  simp +decide only [mjs_0, mjs_1, mjs_2, mjs_3, mjs_ble, true_and, Bool.false_eq_true, if_false, if_true, Nat.reduceAdd, Nat.reduceSub, Nat.reduceLeDiff, false_implies, true_implies, not_false_eq_true, not_true_eq_false, and_true, mc_sh, hr, mjs_up_at, mjs_up_c, mjs_up_f]
  refine ⟨fun q => mj_blk rfl ?_, fun q => mj_blk rfl ?_⟩
  · simp +decide only [mjs_0, mjs_1, mjs_2, mjs_3, mjs_ble, true_and, Bool.false_eq_true, if_false, if_true, Nat.reduceAdd, Nat.reduceSub, Nat.reduceLeDiff, false_implies, true_implies, not_false_eq_true, not_true_eq_false, and_true, mc_sh, hr, mjs_up_at, mjs_up_c, mjs_up_f]
    refine mj_blk rfl ?_
    simp +decide only [mjs_0, mjs_1, mjs_2, mjs_3, mjs_ble, true_and, Bool.false_eq_true, if_false, if_true, Nat.reduceAdd, Nat.reduceSub, Nat.reduceLeDiff, false_implies, true_implies, not_false_eq_true, not_true_eq_false, and_true, mc_sh, hr, mjs_up_at, mjs_up_c, mjs_up_f]
    exact hQ _ _ fin
  · simp +decide only [mjs_0, mjs_1, mjs_2, mjs_3, mjs_ble, true_and, Bool.false_eq_true, if_false, if_true, Nat.reduceAdd, Nat.reduceSub, Nat.reduceLeDiff, false_implies, true_implies, not_false_eq_true, not_true_eq_false, and_true, mc_sh, hr, mjs_up_at, mjs_up_c, mjs_up_f]
    refine mj_blk rfl ?_
    simp +decide only [mjs_0, mjs_1, mjs_2, mjs_3, mjs_ble, true_and, Bool.false_eq_true, if_false, if_true, Nat.reduceAdd, Nat.reduceSub, Nat.reduceLeDiff, false_implies, true_implies, not_false_eq_true, not_true_eq_false, and_true, mc_sh, hr, mjs_up_at, mjs_up_c, mjs_up_f]
    exact hQ _ _ fin
/-- behind a fault -/
theorem ct_121 (hR : mj_Rt mp_R Rf) {f : Int32} {w1 w2 w3 w4 w5 : Option Value} {D : Nat} (h : RCf fb vb g I) (hQ : ∀ I' v, IDC vb g.1.1 0 (fun _ => 0) g.2.2.2.2.2.2.2.1 (g.2.2.2.2.1.1 0) I' → Q (.inl (some (.int v))) (sh59, I', Lg, Rf, nc, ns)) : mj_rn X (mj_hd [(11, 117, 120, 500, 3, 121)]) (mj_call X mj_P (mj_bi X) (D + 2)) mb_2 121 [some (.ref 0), w1, w2, w3, w4, w5] [] (sh59, I, Lg, Rf, nc, ns) Q := by
  have hr := mc_rf hR
  refine mj_blk rfl ?_
  simp +decide only [mjs_0, mjs_1, mjs_2, mjs_3, mjs_ble, true_and, Bool.false_eq_true, if_false, if_true, Nat.reduceAdd, Nat.reduceSub, Nat.reduceLeDiff, false_implies, true_implies, not_false_eq_true, not_true_eq_false, and_true, mc_sh, hr, mjs_up_at, mjs_up_c, mjs_up_f]
  exact mj_nv (ct_129 (w1 := w1) (w3 := w3) (w4 := w4) (w5 := w5) hR h hQ)
/-- behind the loop -/
theorem ct_87 (hR : mj_Rt mp_R Rf) {w1 w3 w4 w5 : Option Value} {D : Nat} (hr' : nc + 1 ≤ X.2.2.1 ∧ ns + 6 ≤ X.2.2.2) (hv : gv (K, P, E, N, S, M, C, O, L)) (h : RC fb vb (K, P, E, N, S, M, C, O, L) I) (hQ : ∀ I' v nc' ns', nc' ≤ nc + 1 → ns' ≤ ns + 6 → IDC vb K.1 0 (fun _ => 0) O (S.1 0) I' → Q (.inl (some (.int v))) (sh59, I', Lg, Rf, nc', ns')) : mj_rn X (mj_hd [(11, 117, 120, 500, 3, 121)]) (mj_call X mj_P (mj_bi X) (D + 2)) mb_2 87 [some (.ref 0), w1, some (.int 0), w3, w4, w5] [] (sh59, I, Lg, Rf, nc, ns) Q := by
  have hr := mc_rf hR
  have h' := h
  obtain ⟨hK, hP, hE, hN, ⟨Lv, sl, le, gs, ⟨hS, hS0⟩, hT⟩, hM, hC, hO, hL, hZ⟩ := rc_d h
  have e1 := hS.2.2.2.2.1
  have e2 := hC.1
  have J117 : ∀ {w1 w3 w4 w5 : Option Value}, mj_rn X (mj_hd [(11, 117, 120, 500, 3, 121)]) (mj_call X mj_P (mj_bi X) (D + 2)) mb_2 117 [some (.ref 0), w1, some (.int 0), w3, w4, w5] [] (sh59, I, Lg, Rf, nc, ns) Q := by
    intro w1 w3 w4 w5
    refine mj_blk rfl ?_
    simp +decide only [mjs_0, mjs_1, mjs_2, mjs_3, mjs_ble, true_and, Bool.false_eq_true, if_false, if_true, Nat.reduceAdd, Nat.reduceSub, Nat.reduceLeDiff, false_implies, true_implies, not_false_eq_true, not_true_eq_false, and_true]
    exact mj_nv (ct_129 (g := (K, P, E, N, S, M, C, O, L)) (w1 := w1) (w3 := w3) (w4 := w4) (w5 := w5) hR (rc_f0 hv h') (fun I' v a => hQ I' v _ _ (by omega) (by omega) a))
  have J107 : ∀ {w1 w3 w4 w5 : Option Value}, mj_rn X (mj_hd [(11, 117, 120, 500, 3, 121)]) (mj_call X mj_P (mj_bi X) (D + 2)) mb_2 107 [some (.ref 0), w1, some (.int 0), w3, w4, w5] [] (sh59, I, Lg, Rf, nc, ns) Q := by
    intro w1 w3 w4 w5
    refine mj_blk rfl ?_
    simp +decide only [mjs_0, mjs_1, mjs_2, mjs_3, mjs_ble, true_and, Bool.false_eq_true, if_false, if_true, Nat.reduceAdd, Nat.reduceSub, Nat.reduceLeDiff, false_implies, true_implies, not_false_eq_true, not_true_eq_false, and_true, mc_sh, hr, mjs_up_at, mjs_up_c, mjs_up_f]
    refine c_80 s59_1 hr' ?_
    refine mj_ret_in (by decide) ?_
    exact mj_nv (ct_121 (g := (K, P, E, N, S, M, C, O, L)) (f := 0) (w1 := w1) (w2 := none) (w3 := none) (w4 := w4) (w5 := w5) hR (rc_f hv h') (fun I' v a => hQ I' v _ _ (Nat.le_refl _) (Nat.le_refl _) a))
  refine mj_blk rfl ?_
  simp +decide only [mjs_0, mjs_1, mjs_2, mjs_3, mjs_ble, true_and, Bool.false_eq_true, if_false, if_true, Nat.reduceAdd, Nat.reduceSub, Nat.reduceLeDiff, false_implies, true_implies, not_false_eq_true, not_true_eq_false, and_true, mc_sh, hr, mjs_up_at, mjs_up_c, mjs_up_f, e1]
  refine ⟨fun q => mj_nv (J107 (w1 := w1) (w3 := w3) (w4 := w4) (w5 := w5)), fun q => mj_blk rfl ?_⟩
  simp +decide only [mjs_0, mjs_1, mjs_2, mjs_3, mjs_ble, true_and, Bool.false_eq_true, if_false, if_true, Nat.reduceAdd, Nat.reduceSub, Nat.reduceLeDiff, false_implies, true_implies, not_false_eq_true, not_true_eq_false, and_true, mc_sh, hr, mjs_up_at, mjs_up_c, mjs_up_f, e2]
  exact ⟨fun q => mj_nv (J117 (w1 := w1) (w3 := w3) (w4 := w4) (w5 := w5)), fun q => mj_nv (J107 (w1 := w1) (w3 := w3) (w4 := w4) (w5 := w5))⟩
/-- the reference's end -/
theorem rt_116 (hM' : mj_Rt mm_R Rf) {tk : Nat} {cn : Nat → Int32} {t : Int32} {w : Option Value} {D : Nat} (h1 : J 36 36 = nI tk) (h2 : rrO O J) (h3 : ∀ c, c < 256 → J 46 c = cn c) (h4 : ∀ c, c < 36 → J c = H c) (hQ : ∀ J' v, IDR H tk 0 (fun _ => 0) O cn J' → Q (.inl (some (.int v))) (sh59, J', Lg, Rf, nc, ns)) : mj_rn X (mj_hd []) (mj_call X mj_P (mj_bi X) D) mb_178 116 [some (.ref 36), some (.int t), w] [] (sh59, J, Lg, Rf, nc, ns) Q := by
  have hm := mm_rf hM'
  have fin : IDR H tk 0 (fun _ => 0) O cn (mj_up J 36 1 0) := ⟨h1, ⟨rfl, fun j hj => absurd hj (Nat.not_lt_zero _)⟩, h2, h3, fun c hc => by rw [mj_up_off (by omega)]; exact h4 c hc⟩
  refine mj_blk rfl ?_
  simp +decide only [mjs_0, mjs_1, mjs_2, mjs_3, mjs_ble, true_and, Bool.false_eq_true, if_false, if_true, Nat.reduceAdd, Nat.reduceSub, Nat.reduceLeDiff, false_implies, true_implies, not_false_eq_true, not_true_eq_false, and_true, mm_sh, hm, mjs_up_at, mjs_up_c, mjs_up_f]
  refine ⟨fun q => mj_blk rfl ?_, fun q => mj_blk rfl ?_⟩
  · simp +decide only [mjs_0, mjs_1, mjs_2, mjs_3, mjs_ble, true_and, Bool.false_eq_true, if_false, if_true, Nat.reduceAdd, Nat.reduceSub, Nat.reduceLeDiff, false_implies, true_implies, not_false_eq_true, not_true_eq_false, and_true, mm_sh, hm, mjs_up_at, mjs_up_c, mjs_up_f]
    refine mj_blk rfl ?_
    simp +decide only [mjs_0, mjs_1, mjs_2, mjs_3, mjs_ble, true_and, Bool.false_eq_true, if_false, if_true, Nat.reduceAdd, Nat.reduceSub, Nat.reduceLeDiff, false_implies, true_implies, not_false_eq_true, not_true_eq_false, and_true, mm_sh, hm, mjs_up_at, mjs_up_c, mjs_up_f]
    exact hQ _ _ fin
  · simp +decide only [mjs_0, mjs_1, mjs_2, mjs_3, mjs_ble, true_and, Bool.false_eq_true, if_false, if_true, Nat.reduceAdd, Nat.reduceSub, Nat.reduceLeDiff, false_implies, true_implies, not_false_eq_true, not_true_eq_false, and_true, mm_sh, hm, mjs_up_at, mjs_up_c, mjs_up_f]
    refine mj_blk rfl ?_
    simp +decide only [mjs_0, mjs_1, mjs_2, mjs_3, mjs_ble, true_and, Bool.false_eq_true, if_false, if_true, Nat.reduceAdd, Nat.reduceSub, Nat.reduceLeDiff, false_implies, true_implies, not_false_eq_true, not_true_eq_false, and_true, mm_sh, hm, mjs_up_at, mjs_up_c, mjs_up_f]
    exact hQ _ _ fin
/-- .. behind a fault, from the loop's head -/
theorem rt_38d (hM' : mj_Rt mm_R Rf) {t : Int32} {w : Option Value} {D : Nat} (h : RD H g J) (hQ : ∀ J' v, IDR H g.1.1 0 (fun _ => 0) g.2.2.2.2.2.2.2.1 (g.2.2.2.2.1.1 0) J' → Q (.inl (some (.int v))) (sh59, J', Lg, Rf, nc, ns)) : mj_rn X (mj_hd []) (mj_call X mj_P (mj_bi X) D) mb_178 38 [some (.ref 36), some (.int t), w] [] (sh59, J, Lg, Rf, nc, ns) Q := by
  have hm := mm_rf hM'
  obtain ⟨h1, ⟨f, f0, f1, f2⟩, hO, hS, hZ⟩ := h
  refine mj_blk rfl ?_
  simp +decide only [mjs_0, mjs_1, mjs_2, mjs_3, mjs_ble, true_and, Bool.false_eq_true, if_false, if_true, Nat.reduceAdd, Nat.reduceSub, Nat.reduceLeDiff, false_implies, true_implies, not_false_eq_true, not_true_eq_false, and_true, mm_sh, hm, mjs_up_at, mjs_up_c, mjs_up_f, f2]
  refine ⟨fun _ => mj_blk rfl ?_, fun q => absurd (nI_ne0 (by omega) (by omega)) q⟩
  simp +decide only [mjs_0, mjs_1, mjs_2, mjs_3, mjs_ble, true_and, Bool.false_eq_true, if_false, if_true, Nat.reduceAdd, Nat.reduceSub, Nat.reduceLeDiff, false_implies, true_implies, not_false_eq_true, not_true_eq_false, and_true, mm_sh, hm, mjs_up_at, mjs_up_c, mjs_up_f, f2]
  refine ⟨fun _ => mj_nv (rt_116 (t := t) (w := w) hM' h1 hO hS.1 hZ hQ), fun q => absurd (nI_ne0 (by omega) (by omega)) q⟩
/-- .. with its flag, from the loop's head -/
theorem rt_38f (hM' : mj_Rt mm_R Rf) {t : Int32} {w : Option Value} {D : Nat} (h : RR H (K, P, E, N, S, M, C, O, L) J) (hQ : ∀ J' v, IDR H K.1 0 (fun _ => 0) O (S.1 0) J' → Q (.inl (some (.int v))) (sh59, J', Lg, Rf, nc, ns)) : mj_rn X (mj_hd []) (mj_call X mj_P (mj_bi X) (D + 1)) mb_178 38 [some (.ref 36), some (.int t), w] [] (sh59, mj_up J 36 40 1, Lg, Rf, nc, ns) Q := by
  have hm := mm_rf hM'
  obtain ⟨hK, hP, hE, hN, hS, hM, hC, hO, hL, hZ⟩ := rr_d h
  have e39 : J 36 39 = 0 := hK.2.2.2
  have e17 : J 36 17 = nI S.2.2.1 := hS.1
  have e33 : J 36 33 = nI C.1 := hC.1
  have h3 : ∀ c, c < 256 → J 46 c = S.1 0 c := fun c hc => by
    have := (hS.2.2.1 0 c (Nat.zero_le _) hc).1
    rw [Nat.mul_zero, Nat.zero_add] at this
    exact this
  have z1 : ∀ c, c < 36 → mj_up J 36 40 1 c = H c := fun c hc => by
    rw [mj_up_off (by omega)]
    exact hZ c (Or.inl hc)
  have J116 : ∀ {w : Option Value}, mj_rn X (mj_hd []) (mj_call X mj_P (mj_bi X) (D + 1)) mb_178 116 [some (.ref 36), some (.int t), w] [] (sh59, mj_up J 36 40 1, Lg, Rf, nc, ns) Q := fun {w} => rt_116 hM' hK.1 hO.1 h3 z1 hQ
  have J110 : ∀ {w : Option Value}, mj_rn X (mj_hd []) (mj_call X mj_P (mj_bi X) (D + 1)) mb_178 110 [some (.ref 36), some (.int t), w] [] (sh59, mj_up J 36 40 1, Lg, Rf, nc, ns) Q := by
    intro w
    refine mj_blk rfl ?_
    simp +decide only [mjs_0, mjs_1, mjs_2, mjs_3, mjs_ble, true_and, Bool.false_eq_true, if_false, if_true, Nat.reduceAdd, Nat.reduceSub, Nat.reduceLeDiff, false_implies, true_implies, not_false_eq_true, not_true_eq_false, and_true, mm_sh, hm, mjs_up_at, mjs_up_c, mjs_up_f]
    refine c_106 s59_36 ?_
    simp +decide only [mjs_0, mjs_1, mjs_2, mjs_3, mjs_ble, true_and, Bool.false_eq_true, if_false, if_true, Nat.reduceAdd, Nat.reduceSub, Nat.reduceLeDiff, false_implies, true_implies, not_false_eq_true, not_true_eq_false, and_true, mm_sh, hm, mjs_up_at, mjs_up_c, mjs_up_f]
    exact mj_nv (rt_116 (t := t) (w := w) (J := mj_up (mj_up J 36 40 1) 36 39 _) hM' hK.1 hO.1 h3 (fun c hc => by rw [mj_up_off (by omega)]; exact z1 c hc) hQ)
  refine mj_blk rfl ?_
  simp +decide only [mjs_0, mjs_1, mjs_2, mjs_3, mjs_ble, true_and, Bool.false_eq_true, if_false, if_true, Nat.reduceAdd, Nat.reduceSub, Nat.reduceLeDiff, false_implies, true_implies, not_false_eq_true, not_true_eq_false, and_true, mm_sh, hm, mjs_up_at, mjs_up_c, mjs_up_f, e39]
  refine mj_blk rfl ?_
  simp +decide only [mjs_0, mjs_1, mjs_2, mjs_3, mjs_ble, true_and, Bool.false_eq_true, if_false, if_true, Nat.reduceAdd, Nat.reduceSub, Nat.reduceLeDiff, false_implies, true_implies, not_false_eq_true, not_true_eq_false, and_true, mm_sh, hm, mjs_up_at, mjs_up_c, mjs_up_f]
  refine mj_blk rfl ?_
  simp +decide only [mjs_0, mjs_1, mjs_2, mjs_3, mjs_ble, true_and, Bool.false_eq_true, if_false, if_true, Nat.reduceAdd, Nat.reduceSub, Nat.reduceLeDiff, false_implies, true_implies, not_false_eq_true, not_true_eq_false, and_true, mm_sh, hm, mjs_up_at, mjs_up_c, mjs_up_f, e39]
  refine mj_blk rfl ?_
  simp +decide only [mjs_0, mjs_1, mjs_2, mjs_3, mjs_ble, true_and, Bool.false_eq_true, if_false, if_true, Nat.reduceAdd, Nat.reduceSub, Nat.reduceLeDiff, false_implies, true_implies, not_false_eq_true, not_true_eq_false, and_true, mm_sh, hm, mjs_up_at, mjs_up_c, mjs_up_f, e17]
  refine ⟨fun q => mj_nv (J110 (w := w)), fun q => mj_blk rfl ?_⟩
  simp +decide only [mjs_0, mjs_1, mjs_2, mjs_3, mjs_ble, true_and, Bool.false_eq_true, if_false, if_true, Nat.reduceAdd, Nat.reduceSub, Nat.reduceLeDiff, false_implies, true_implies, not_false_eq_true, not_true_eq_false, and_true, mm_sh, hm, mjs_up_at, mjs_up_c, mjs_up_f, e33]
  exact ⟨fun q => mj_nv (J116 (w := w)), fun q => mj_nv (J110 (w := w))⟩
theorem rd_40 {x : Int32} (h : RD H g J) : RD H g (mj_up J 36 40 x) := by
  obtain ⟨h1, h2, hO, hS, hZ⟩ := h
  exact ⟨h1, h2, hO, hS, fun c hc => by rw [mj_up_off (by omega)]; exact hZ c hc⟩
/-- the loop's head to a token's doing -/
theorem rt_81 (hM' : mj_Rt mm_R Rf) {tt : Int32} {w : Option Value} {D : Nat} (hD : kr ≤ D + 20) (ht : rt t < 2 ^ 31) (hk5 : K'.1 < K'.2.1 ∧ K'.2.1 ≤ 30000) (a : RX X Rf kr 129 [.ref 36] (K, P, E, N, S, M, C, O, L) na (some (.int (nI (rt t)))) (K', P', E, N', S', M, C', O, L') na) (hJ : RR H (K, P, E, N, S, M, C, O, L) J)
    (hq : ∀ H' J' w, (∀ c, c < 36 → H' c = H c) → RR H' ((K'.1 + 1, K'.2), P', E, N', S', M, C', O, L') J' → mj_rn X (mj_hd []) (mj_call X mj_P (mj_bi X) (D + 20)) mb_178 81 [some (.ref 36), w, some (.int (nI (rt t)))] [] (sh59, J', Lg, Rf, nc, ns) Q) :
    mj_rn X (mj_hd []) (mj_call X mj_P (mj_bi X) (D + 20)) mb_178 38 [some (.ref 36), some (.int tt), w] [] (sh59, J, Lg, Rf, nc, ns) Q := by
  have hm := mm_rf hM'
  have f39 : J 36 39 = 0 := (rr_d hJ).1.2.2.2
  have f40 : J 36 40 = 0 := (rr_d hJ).2.2.2.2.2.2.2.1.2
  have hne : ¬ nI (rt t) = -1 := fun e => absurd (nI_pos ht) (by rw [e]; decide)
  refine mj_blk rfl ?_
  simp +decide only [mjs_0, mjs_1, mjs_2, mjs_3, mjs_ble, true_and, Bool.false_eq_true, if_false, if_true, Nat.reduceAdd, Nat.reduceSub, Nat.reduceLeDiff, false_implies, true_implies, not_false_eq_true, not_true_eq_false, and_true, mm_sh, hm, mjs_up_at, mjs_up_c, mjs_up_f, f39]
  refine mj_blk rfl ?_
  simp +decide only [mjs_0, mjs_1, mjs_2, mjs_3, mjs_ble, true_and, Bool.false_eq_true, if_false, if_true, Nat.reduceAdd, Nat.reduceSub, Nat.reduceLeDiff, false_implies, true_implies, not_false_eq_true, not_true_eq_false, and_true, mm_sh, hm, mjs_up_at, mjs_up_c, mjs_up_f, f40]
  refine mj_blk rfl ?_
  simp +decide only [mjs_0, mjs_1, mjs_2, mjs_3, mjs_ble, true_and, Bool.false_eq_true, if_false, if_true, Nat.reduceAdd, Nat.reduceSub, Nat.reduceLeDiff, false_implies, true_implies, not_false_eq_true, not_true_eq_false, and_true, mm_sh, hm, mjs_up_at, mjs_up_c, mjs_up_f]
  refine rx_at a hD hJ trivial (fun H' J' b1 b2 _ => ?_)
  simp +decide only [mjs_0, mjs_1, mjs_2, mjs_3, mjs_ble, true_and, Bool.false_eq_true, if_false, if_true, Nat.reduceAdd, Nat.reduceSub, Nat.reduceLeDiff, false_implies, true_implies, not_false_eq_true, not_true_eq_false, and_true, mm_sh, hm, mjs_up_at, mjs_up_c, mjs_up_f]
  refine ⟨fun _ => mj_blk rfl ?_, fun q => absurd hne q⟩
  simp +decide only [mjs_0, mjs_1, mjs_2, mjs_3, mjs_ble, true_and, Bool.false_eq_true, if_false, if_true, Nat.reduceAdd, Nat.reduceSub, Nat.reduceLeDiff, false_implies, true_implies, not_false_eq_true, not_true_eq_false, and_true, mm_sh, hm, mjs_up_at, mjs_up_c, mjs_up_f]
  refine rq_132 hM' b2 ⟨Nat.le_of_lt hk5.1, hk5.2⟩ (fun _ J2 c1 => ?_) (fun q => absurd q (Nat.ne_of_lt hk5.1))
  have g39 : J2 36 39 = 0 := (rr_d c1).1.2.2.2
  simp +decide only [mjs_0, mjs_1, mjs_2, mjs_3, mjs_ble, true_and, Bool.false_eq_true, if_false, if_true, Nat.reduceAdd, Nat.reduceSub, Nat.reduceLeDiff, false_implies, true_implies, not_false_eq_true, not_true_eq_false, and_true, mm_sh, hm, mjs_up_at, mjs_up_c, mjs_up_f, g39]
  exact mj_nv (hq H' J2 none (fun c hc => b1 c (Or.inl hc)) c1)
theorem idr_h {H' : Nat → Nat → Int32} {tk m : Nat} {tx : Nat → Nat} {cn : Nat → Int32} (e : ∀ c, c < 36 → H' c = H c) (h : IDR H' tk m tx O cn J) : IDR H tk m tx O cn J := ⟨h.1, h.2.1, h.2.2.1, h.2.2.2.1, fun c hc => (h.2.2.2.2 c hc).trans (e c hc)⟩
variable {tk : Nat} {cn : Nat → Int32}
/-- a token done -/
theorem re_0 (hM' : mj_Rt mm_R Rf) (ht : rt t < 2 ^ 31) (hk5 : K'.1 < K'.2.1 ∧ K'.2.1 ≤ 30000) (a : RX X Rf kr 129 [.ref 36] (K, P, E, N, S, M, C, O, L) na (some (.int (nI (rt t)))) (K', P', E, N', S', M, C', O, L') na) (b : RX X Rf 8 167 [.ref 36, .int (nI (rt t))] ((K'.1 + 1, K'.2), P', E, N', S', M, C', O, L') na none g' na) (e : RE X Rf (kr + 20) g' tk O' cn) : RE X Rf (kr + 20) (K, P, E, N, S, M, C, O, L) tk O' cn := by
  intro H Lg d nc ns J tt w Q hJ hq
  have hm := mm_rf hM'
  have ed : d + (kr + 20) = (d + kr) + 20 := by omega
  rw [ed]
  refine rt_81 hM' (by omega) ht hk5 a hJ (fun H1 J1 w1 b1 b2 => ?_)
  refine mj_blk rfl ?_
  simp +decide only [mjs_0, mjs_1, mjs_2, mjs_3, mjs_ble, true_and, Bool.false_eq_true, if_false, if_true, Nat.reduceAdd, Nat.reduceSub, Nat.reduceLeDiff, false_implies, true_implies, not_false_eq_true, not_true_eq_false, and_true, mm_sh, hm, mjs_up_at, mjs_up_c, mjs_up_f]
  refine rx_at b (by omega) b2 trivial (fun H2 J2 c1 c2 _ => ?_)
  simp +decide only [mjs_0, mjs_1, mjs_2, mjs_3, mjs_ble, true_and, Bool.false_eq_true, if_false, if_true, Nat.reduceAdd, Nat.reduceSub, Nat.reduceLeDiff, false_implies, true_implies, not_false_eq_true, not_true_eq_false, and_true, mm_sh, hm, mjs_up_at, mjs_up_c, mjs_up_f]
  refine mj_blk rfl ?_
  simp +decide only [mjs_0, mjs_1, mjs_2, mjs_3, mjs_ble, true_and, Bool.false_eq_true, if_false, if_true, Nat.reduceAdd, Nat.reduceSub, Nat.reduceLeDiff, false_implies, true_implies, not_false_eq_true, not_true_eq_false, and_true]
  rw [← ed]
  exact mj_nv (e H2 Lg d nc ns J2 tt none Q c2 (fun J3 v d1 => hq J3 v (idr_h (fun c hc => (c1 c (Or.inl hc)).trans (b1 c hc)) d1)))
/-- an assignment done -/
theorem re_a (hM' : mj_Rt mm_R Rf) (h12 : 12 ≤ kr) (hv : gv ((K'.1 + 1, K'.2), P', E, N', S', M, C', O, L')) (htv : tv N'.2.2 t) (ht : rt t < 2 ^ 31) (hk5 : K'.1 < K'.2.1 ∧ K'.2.1 ≤ 30000) (hc : 25 ≤ c ∧ c ≤ 36) (hgm : gm S' t = 65536 + c) (a : RX X Rf kr 129 [.ref 36] (K, P, E, N, S, M, C, O, L) na (some (.int (nI (rt t)))) (K', P', E, N', S', M, C', O, L') na) (b : RXw X Rf (kr + 12) 168 [.ref 36, .int (nI (c - 2)), .int (nI 0)] ((K'.1 + 1, K'.2), P', E, N', S', M, C', O, L') none g') (e : RE X Rf (kr + 20) g' tk O' cn) : RE X Rf (kr + 20) (K, P, E, N, S, M, C, O, L) tk O' cn := by
  intro H Lg d nc ns J tt w Q hJ hq
  have hm := mm_rf hM'
  have ed : d + (kr + 20) = (d + kr) + 20 := by omega
  rw [ed]
  refine rt_81 hM' (by omega) ht hk5 a hJ (fun H1 J1 w1 b1 b2 => ?_)
  refine mj_blk rfl ?_
  simp +decide only [mjs_0, mjs_1, mjs_2, mjs_3, mjs_ble, true_and, Bool.false_eq_true, if_false, if_true, Nat.reduceAdd, Nat.reduceSub, Nat.reduceLeDiff, false_implies, true_implies, not_false_eq_true, not_true_eq_false, and_true, mm_sh, hm, mjs_up_at, mjs_up_c, mjs_up_f]
  refine r_167a (D := d + kr + 16) hM' hv htv hc hgm b2 (fun K3 hK3 => ?_)
  refine rxw_at b (by omega) b2 (fun H2 J2 c1 c2 => hK3 J2 ?_)
  simp +decide only [mjs_0, mjs_1, mjs_2, mjs_3, mjs_ble, true_and, Bool.false_eq_true, if_false, if_true, Nat.reduceAdd, Nat.reduceSub, Nat.reduceLeDiff, false_implies, true_implies, not_false_eq_true, not_true_eq_false, and_true, mm_sh, hm, mjs_up_at, mjs_up_c, mjs_up_f]
  refine mj_blk rfl ?_
  simp +decide only [mjs_0, mjs_1, mjs_2, mjs_3, mjs_ble, true_and, Bool.false_eq_true, if_false, if_true, Nat.reduceAdd, Nat.reduceSub, Nat.reduceLeDiff, false_implies, true_implies, not_false_eq_true, not_true_eq_false, and_true]
  rw [← ed]
  exact mj_nv (e H2 Lg d nc ns J2 tt none Q c2 (fun J3 v d1 => hq J3 v (idr_h (fun c hc => (c1 c hc).trans (b1 c hc)) d1)))
/-- the text's end -/
theorem re_e (hM' : mj_Rt mm_R Rf) (a : RX X Rf kr 129 [.ref 36] (K, P, E, N, S, M, C, O, L) na (some (.int (-1))) (K', P', E, N', S', M, C', O, L') na) : RE X Rf (kr + 20) (K, P, E, N, S, M, C, O, L) K'.1 O (S'.1 0) := by
  intro H Lg d nc ns J tt w Q hJ hq
  have hm := mm_rf hM'
  have ed : d + (kr + 20) = (d + kr) + 20 := by omega
  rw [ed]
  have f39 : J 36 39 = 0 := (rr_d hJ).1.2.2.2
  have f40 : J 36 40 = 0 := (rr_d hJ).2.2.2.2.2.2.2.1.2
  refine mj_blk rfl ?_
  simp +decide only [mjs_0, mjs_1, mjs_2, mjs_3, mjs_ble, true_and, Bool.false_eq_true, if_false, if_true, Nat.reduceAdd, Nat.reduceSub, Nat.reduceLeDiff, false_implies, true_implies, not_false_eq_true, not_true_eq_false, and_true, mm_sh, hm, mjs_up_at, mjs_up_c, mjs_up_f, f39]
  refine mj_blk rfl ?_
  simp +decide only [mjs_0, mjs_1, mjs_2, mjs_3, mjs_ble, true_and, Bool.false_eq_true, if_false, if_true, Nat.reduceAdd, Nat.reduceSub, Nat.reduceLeDiff, false_implies, true_implies, not_false_eq_true, not_true_eq_false, and_true, mm_sh, hm, mjs_up_at, mjs_up_c, mjs_up_f, f40]
  refine mj_blk rfl ?_
  simp +decide only [mjs_0, mjs_1, mjs_2, mjs_3, mjs_ble, true_and, Bool.false_eq_true, if_false, if_true, Nat.reduceAdd, Nat.reduceSub, Nat.reduceLeDiff, false_implies, true_implies, not_false_eq_true, not_true_eq_false, and_true, mm_sh, hm, mjs_up_at, mjs_up_c, mjs_up_f]
  refine rx_at a (by omega) hJ trivial (fun H' J' b1 b2 _ => ?_)
  simp +decide only [mjs_0, mjs_1, mjs_2, mjs_3, mjs_ble, true_and, Bool.false_eq_true, if_false, if_true, Nat.reduceAdd, Nat.reduceSub, Nat.reduceLeDiff, false_implies, true_implies, not_false_eq_true, not_true_eq_false, and_true, mm_sh, hm, mjs_up_at, mjs_up_c, mjs_up_f]
  refine mj_blk rfl ?_
  simp +decide only [mjs_0, mjs_1, mjs_2, mjs_3, mjs_ble, true_and, Bool.false_eq_true, if_false, if_true, Nat.reduceAdd, Nat.reduceSub, Nat.reduceLeDiff, false_implies, true_implies, not_false_eq_true, not_true_eq_false, and_true, mm_sh, hm, mjs_up_at, mjs_up_c, mjs_up_f]
  refine mj_blk rfl ?_
  simp +decide only [mjs_0, mjs_1, mjs_2, mjs_3, mjs_ble, true_and, Bool.false_eq_true, if_false, if_true, Nat.reduceAdd, Nat.reduceSub, Nat.reduceLeDiff, false_implies, true_implies, not_false_eq_true, not_true_eq_false, and_true, mm_sh, hm, mjs_up_at, mjs_up_c, mjs_up_f]
  exact mj_nv (rt_38f (t := tt) (w := none) hM' b2 (fun J3 v d1 => hq J3 v (idr_h (fun c hc => b1 c (Or.inl hc)) d1)))
/-- end -/
theorem re_n (hM' : mj_Rt mm_R Rf) (hv : gv ((K'.1 + 1, K'.2), P', E, N', S', M, C', O, L')) (htv : tv N'.2.2 t) (ht : rt t < 2 ^ 31) (hk5 : K'.1 < K'.2.1 ∧ K'.2.1 ≤ 30000) (hgm : gm S' t = 65536 + 24) (a : RX X Rf kr 129 [.ref 36] (K, P, E, N, S, M, C, O, L) na (some (.int (nI (rt t)))) (K', P', E, N', S', M, C', O, L') na) : RE X Rf (kr + 20) (K, P, E, N, S, M, C, O, L) (K'.1 + 1) O (S'.1 0) := by
  intro H Lg d nc ns J tt w Q hJ hq
  have hm := mm_rf hM'
  have ed : d + (kr + 20) = (d + kr) + 20 := by omega
  rw [ed]
  refine rt_81 hM' (by omega) ht hk5 a hJ (fun H1 J1 w1 b1 b2 => ?_)
  refine mj_blk rfl ?_
  simp +decide only [mjs_0, mjs_1, mjs_2, mjs_3, mjs_ble, true_and, Bool.false_eq_true, if_false, if_true, Nat.reduceAdd, Nat.reduceSub, Nat.reduceLeDiff, false_implies, true_implies, not_false_eq_true, not_true_eq_false, and_true, mm_sh, hm, mjs_up_at, mjs_up_c, mjs_up_f]
  refine r_167n (D := d + kr + 16) hM' hv htv hgm b2 ?_
  simp +decide only [mjs_0, mjs_1, mjs_2, mjs_3, mjs_ble, true_and, Bool.false_eq_true, if_false, if_true, Nat.reduceAdd, Nat.reduceSub, Nat.reduceLeDiff, false_implies, true_implies, not_false_eq_true, not_true_eq_false, and_true, mm_sh, hm, mjs_up_at, mjs_up_c, mjs_up_f]
  refine mj_blk rfl ?_
  simp +decide only [mjs_0, mjs_1, mjs_2, mjs_3, mjs_ble, true_and, Bool.false_eq_true, if_false, if_true, Nat.reduceAdd, Nat.reduceSub, Nat.reduceLeDiff, false_implies, true_implies, not_false_eq_true, not_true_eq_false, and_true]
  exact mj_nv (rt_38f (t := tt) (w := none) hM' b2 (fun J3 v d1 => hq J3 v (idr_h b1 d1)))
/-- a fault while expanding -/
theorem re_y1 (hM' : mj_Rt mm_R Rf) (a : RY X Rf kr 129 [.ref 36] (K, P, E, N, S, M, C, O, L) na (some (.int (-1))) g') : RE X Rf (kr + 20) (K, P, E, N, S, M, C, O, L) g'.1.1 g'.2.2.2.2.2.2.2.1 (g'.2.2.2.2.1.1 0) := by
  intro H Lg d nc ns J tt w Q hJ hq
  have hm := mm_rf hM'
  have ed : d + (kr + 20) = (d + kr) + 20 := by omega
  rw [ed]
  have f39 : J 36 39 = 0 := (rr_d hJ).1.2.2.2
  have f40 : J 36 40 = 0 := (rr_d hJ).2.2.2.2.2.2.2.1.2
  refine mj_blk rfl ?_
  simp +decide only [mjs_0, mjs_1, mjs_2, mjs_3, mjs_ble, true_and, Bool.false_eq_true, if_false, if_true, Nat.reduceAdd, Nat.reduceSub, Nat.reduceLeDiff, false_implies, true_implies, not_false_eq_true, not_true_eq_false, and_true, mm_sh, hm, mjs_up_at, mjs_up_c, mjs_up_f, f39]
  refine mj_blk rfl ?_
  simp +decide only [mjs_0, mjs_1, mjs_2, mjs_3, mjs_ble, true_and, Bool.false_eq_true, if_false, if_true, Nat.reduceAdd, Nat.reduceSub, Nat.reduceLeDiff, false_implies, true_implies, not_false_eq_true, not_true_eq_false, and_true, mm_sh, hm, mjs_up_at, mjs_up_c, mjs_up_f, f40]
  refine mj_blk rfl ?_
  simp +decide only [mjs_0, mjs_1, mjs_2, mjs_3, mjs_ble, true_and, Bool.false_eq_true, if_false, if_true, Nat.reduceAdd, Nat.reduceSub, Nat.reduceLeDiff, false_implies, true_implies, not_false_eq_true, not_true_eq_false, and_true, mm_sh, hm, mjs_up_at, mjs_up_c, mjs_up_f]
  refine ry_at a (by omega) hJ trivial (fun J' b2 => ?_)
  simp +decide only [mjs_0, mjs_1, mjs_2, mjs_3, mjs_ble, true_and, Bool.false_eq_true, if_false, if_true, Nat.reduceAdd, Nat.reduceSub, Nat.reduceLeDiff, false_implies, true_implies, not_false_eq_true, not_true_eq_false, and_true, mm_sh, hm, mjs_up_at, mjs_up_c, mjs_up_f]
  refine mj_blk rfl ?_
  simp +decide only [mjs_0, mjs_1, mjs_2, mjs_3, mjs_ble, true_and, Bool.false_eq_true, if_false, if_true, Nat.reduceAdd, Nat.reduceSub, Nat.reduceLeDiff, false_implies, true_implies, not_false_eq_true, not_true_eq_false, and_true, mm_sh, hm, mjs_up_at, mjs_up_c, mjs_up_f]
  refine mj_blk rfl ?_
  simp +decide only [mjs_0, mjs_1, mjs_2, mjs_3, mjs_ble, true_and, Bool.false_eq_true, if_false, if_true, Nat.reduceAdd, Nat.reduceSub, Nat.reduceLeDiff, false_implies, true_implies, not_false_eq_true, not_true_eq_false, and_true, mm_sh, hm, mjs_up_at, mjs_up_c, mjs_up_f]
  exact mj_nv (rt_38d (t := tt) (w := none) hM' (rd_40 b2) hq)
/-- no tick left -/
theorem re_y2 (hM' : mj_Rt mm_R Rf) (ht : rt t < 2 ^ 31) (hk5 : K'.1 = K'.2.1 ∧ K'.2.1 ≤ 30000) (a : RX X Rf kr 129 [.ref 36] (K, P, E, N, S, M, C, O, L) na (some (.int (nI (rt t)))) (K', P', E, N', S', M, C', O, L') na) : RE X Rf (kr + 20) (K, P, E, N, S, M, C, O, L) (K'.1 + 1) O (S'.1 0) := by
  intro H Lg d nc ns J tt w Q hJ hq
  have hm := mm_rf hM'
  have ed : d + (kr + 20) = (d + kr) + 20 := by omega
  rw [ed]
  have f39 : J 36 39 = 0 := (rr_d hJ).1.2.2.2
  have f40 : J 36 40 = 0 := (rr_d hJ).2.2.2.2.2.2.2.1.2
  have hne : ¬ nI (rt t) = -1 := fun e => absurd (nI_pos ht) (by rw [e]; decide)
  refine mj_blk rfl ?_
  simp +decide only [mjs_0, mjs_1, mjs_2, mjs_3, mjs_ble, true_and, Bool.false_eq_true, if_false, if_true, Nat.reduceAdd, Nat.reduceSub, Nat.reduceLeDiff, false_implies, true_implies, not_false_eq_true, not_true_eq_false, and_true, mm_sh, hm, mjs_up_at, mjs_up_c, mjs_up_f, f39]
  refine mj_blk rfl ?_
  simp +decide only [mjs_0, mjs_1, mjs_2, mjs_3, mjs_ble, true_and, Bool.false_eq_true, if_false, if_true, Nat.reduceAdd, Nat.reduceSub, Nat.reduceLeDiff, false_implies, true_implies, not_false_eq_true, not_true_eq_false, and_true, mm_sh, hm, mjs_up_at, mjs_up_c, mjs_up_f, f40]
  refine mj_blk rfl ?_
  simp +decide only [mjs_0, mjs_1, mjs_2, mjs_3, mjs_ble, true_and, Bool.false_eq_true, if_false, if_true, Nat.reduceAdd, Nat.reduceSub, Nat.reduceLeDiff, false_implies, true_implies, not_false_eq_true, not_true_eq_false, and_true, mm_sh, hm, mjs_up_at, mjs_up_c, mjs_up_f]
  refine rx_at a (by omega) hJ trivial (fun H' J' b1 b2 _ => ?_)
  simp +decide only [mjs_0, mjs_1, mjs_2, mjs_3, mjs_ble, true_and, Bool.false_eq_true, if_false, if_true, Nat.reduceAdd, Nat.reduceSub, Nat.reduceLeDiff, false_implies, true_implies, not_false_eq_true, not_true_eq_false, and_true, mm_sh, hm, mjs_up_at, mjs_up_c, mjs_up_f]
  refine ⟨fun _ => mj_blk rfl ?_, fun q => absurd hne q⟩
  simp +decide only [mjs_0, mjs_1, mjs_2, mjs_3, mjs_ble, true_and, Bool.false_eq_true, if_false, if_true, Nat.reduceAdd, Nat.reduceSub, Nat.reduceLeDiff, false_implies, true_implies, not_false_eq_true, not_true_eq_false, and_true, mm_sh, hm, mjs_up_at, mjs_up_c, mjs_up_f]
  refine rq_132 hM' b2 ⟨Nat.le_of_eq hk5.1, hk5.2⟩ (fun q => absurd hk5.1 (Nat.ne_of_lt q)) (fun _ J2 c1 => ?_)
  obtain ⟨f, f0, f1, f2⟩ := c1.2.1
  simp +decide only [mjs_0, mjs_1, mjs_2, mjs_3, mjs_ble, true_and, Bool.false_eq_true, if_false, if_true, Nat.reduceAdd, Nat.reduceSub, Nat.reduceLeDiff, false_implies, true_implies, not_false_eq_true, not_true_eq_false, and_true, mm_sh, hm, mjs_up_at, mjs_up_c, mjs_up_f, f2]
  refine ⟨fun _ => mj_blk rfl ?_, fun q => absurd (nI_ne0 (by omega) (by omega)) q⟩
  simp +decide only [mjs_0, mjs_1, mjs_2, mjs_3, mjs_ble, true_and, Bool.false_eq_true, if_false, if_true, Nat.reduceAdd, Nat.reduceSub, Nat.reduceLeDiff, false_implies, true_implies, not_false_eq_true, not_true_eq_false, and_true]
  exact mj_nv (rt_38d (g := ((K'.1 + 1, K'.2), P', E, N', S', M, C', O, L')) (t := tt) (w := none) hM' c1 (fun J3 v d1 => hq J3 v (idr_h (fun c hc => b1 c (Or.inl hc)) d1)))
/-- a fault while a token is done -/
theorem re_y3 (hM' : mj_Rt mm_R Rf) (ht : rt t < 2 ^ 31) (hk5 : K'.1 < K'.2.1 ∧ K'.2.1 ≤ 30000) (a : RX X Rf kr 129 [.ref 36] (K, P, E, N, S, M, C, O, L) na (some (.int (nI (rt t)))) (K', P', E, N', S', M, C', O, L') na) (b : RY X Rf (kr + 16) 167 [.ref 36, .int (nI (rt t))] ((K'.1 + 1, K'.2), P', E, N', S', M, C', O, L') na none g') : RE X Rf (kr + 20) (K, P, E, N, S, M, C, O, L) g'.1.1 g'.2.2.2.2.2.2.2.1 (g'.2.2.2.2.1.1 0) := by
  intro H Lg d nc ns J tt w Q hJ hq
  have hm := mm_rf hM'
  have ed : d + (kr + 20) = (d + kr) + 20 := by omega
  rw [ed]
  refine rt_81 hM' (by omega) ht hk5 a hJ (fun H1 J1 w1 b1 b2 => ?_)
  refine mj_blk rfl ?_
  simp +decide only [mjs_0, mjs_1, mjs_2, mjs_3, mjs_ble, true_and, Bool.false_eq_true, if_false, if_true, Nat.reduceAdd, Nat.reduceSub, Nat.reduceLeDiff, false_implies, true_implies, not_false_eq_true, not_true_eq_false, and_true, mm_sh, hm, mjs_up_at, mjs_up_c, mjs_up_f]
  refine ry_at b (by omega) b2 trivial (fun J2 c1 => ?_)
  simp +decide only [mjs_0, mjs_1, mjs_2, mjs_3, mjs_ble, true_and, Bool.false_eq_true, if_false, if_true, Nat.reduceAdd, Nat.reduceSub, Nat.reduceLeDiff, false_implies, true_implies, not_false_eq_true, not_true_eq_false, and_true, mm_sh, hm, mjs_up_at, mjs_up_c, mjs_up_f]
  refine mj_blk rfl ?_
  simp +decide only [mjs_0, mjs_1, mjs_2, mjs_3, mjs_ble, true_and, Bool.false_eq_true, if_false, if_true, Nat.reduceAdd, Nat.reduceSub, Nat.reduceLeDiff, false_implies, true_implies, not_false_eq_true, not_true_eq_false, and_true]
  exact mj_nv (rt_38d (t := tt) (w := none) hM' c1 (fun J3 v d1 => hq J3 v (idr_h b1 d1)))
theorem ry_167a (hM' : mj_Rt mm_R Rf) (hv : gv (K, P, E, N, S, M, C, O, L)) (htv : tv N.2.2 t) (hc : 25 ≤ c ∧ c ≤ 36) (hgm : gm S t = 65536 + c) (b : RY X Rf (kr + 12) 168 [.ref 36, .int (nI (c - 2)), .int (nI 0)] (K, P, E, N, S, M, C, O, L) na none g') : RY X Rf (kr + 16) 167 [.ref 36, .int (nI (rt t))] (K, P, E, N, S, M, C, O, L) na none g' := by
  intro H Lg d nc ns J Q hJ hA hq
  have ed : d + (kr + 16) = (d + kr + 12) + 4 := by omega
  rw [ed]
  exact r_167a hM' hv htv hc hgm hJ (fun K3 hK3 => ry_at b (by omega) hJ trivial (fun J2 c1 => hK3 J2 (hq J2 c1)))
theorem ry_mono {kk kk' MM : Nat} {as : List Value} {o : Option Value} (h : RY X Rf kk MM as g na o g') (hk : kk ≤ kk') : RY X Rf kk' MM as g na o g' := fun H Lg d nc ns J Q hJ hA hq => ry_at h (by omega) hJ hA hq
end MJRN
