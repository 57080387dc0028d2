/-! A MACRO'S TOKENS KEPT, in both -/
def adM (M : sgM) (v : Nat) : sgM := (ud M.1 M.2.2.2.1 v, M.2.1, M.2.2.1, M.2.2.2.1 + 1, M.2.2.2.2)
def bdM (M : sgM) : sgM := (M.1, M.2.1, ud M.2.2.1 M.2.2.2.2.1 M.2.2.2.1, M.2.2.2)
/-- the macros made stay as they are -/
def mg (M M' : sgM) : Prop := M'.2.2.2.2 = M.2.2.2.2 ∧ (∀ a, a ≤ M.2.2.2.2.1 → M'.2.1 a = M.2.1 a) ∧ (∀ a, a < M.2.2.2.2.1 → M'.2.2.1 a = M.2.2.1 a) ∧ (∀ j, j < M.2.2.2.1 → M'.1 j = M.1 j) ∧ M.2.2.2.1 ≤ M'.2.2.2.1
theorem mg_rf {M : sgM} : mg M M := ⟨rfl, fun _ _ => rfl, fun _ _ => rfl, fun _ _ => rfl, Nat.le_refl _⟩
theorem mg_tr {M M' M'' : sgM} (h : mg M M') (h' : mg M' M'') : mg M M'' := by
  obtain ⟨a1, a2, a3, a4, a5⟩ := h
  obtain ⟨b1, b2, b3, b4, b5⟩ := h'
  have e : M'.2.2.2.2.1 = M.2.2.2.2.1 := by rw [a1]
  refine ⟨b1.trans a1, fun a ha => (b2 a (by omega)).trans (a2 a ha), fun a ha => (b3 a (by omega)).trans (a3 a ha), fun j hj => (b4 j (by omega)).trans (a4 j hj), by omega⟩
theorem mg_ad {M : sgM} {v : Nat} : mg M (adM M v) := ⟨rfl, fun _ _ => rfl, fun _ _ => rfl, fun j hj => ud_ne (by omega), Nat.le_succ _⟩
theorem mg_bd {M : sgM} : mg M (bdM M) := ⟨rfl, fun _ _ => rfl, fun a ha => ud_ne (by omega), fun _ _ => rfl, Nat.le_refl _⟩
theorem np_eq {f g : Nat → Nat} {a : Nat} : ∀ {n : Nat}, (∀ i, a ≤ i → i < a + n → f i = g i) → np f a n = np g a n
  | 0, _ => rfl
  | n + 1, h => by
    rw [np_s, np_s, np_eq (n := n) (fun i h1 h2 => h i h1 (by omega)), h (a + n) (by omega) (by omega)]
section MJKP
variable {X : mj_X} {d nc ns : Nat} {Q : mj_Q} {I I' J J' H : Nat → Nat → Int32} {Lg : Nat → Nat → Int64} {Rf : Nat → Nat → Option Nat} {fb fb' : Nat → Nat → Int32} {vb : Nat → Int32} {K K' K2 : Nat × Nat × Nat} {P P' P2 : List Nat} {E : sgE} {N N' N2 : sgN} {S S' S2 : sgS} {M M' : sgM} {C C' C2 : sgC} {O : sgO} {L L' L2 : sgL} {t n kc kr gl s' k a v : Nat}
theorem mg_mo (hM : gvM k M) (h : mg M M') (ha : a < M.2.2.2.2.1) : mo M' a := by
  obtain ⟨h1, h2, h3, h4, h5⟩ := h
  obtain ⟨m1, m2, m3, m4⟩ := hM
  obtain ⟨c1, c2, c3, ⟨o1, o2, o3, o4⟩⟩ := m2 a ha
  have e1 := h2 a (by omega)
  have e2 := h2 (a + 1) (by omega)
  have e3 := h3 a ha
  have en : ∀ n, n ≤ M.2.2.1 a - M.2.1 a → np M'.1 (M.2.1 a) n = np M.1 (M.2.1 a) n := fun n hn => np_eq (fun i i1 i2 => h4 i (by omega))
  refine ⟨fun i i1 i2 i3 => ?_, ?_, fun i i1 i2 i3 => ?_, fun i i1 i2 => ?_⟩
  · rw [e1] at i1 ⊢
    rw [e3] at i2
    rw [h4 i (by omega)] at i3 ⊢
    rw [en _ (by omega)]
    exact o1 i i1 i2 i3
  · rw [e1, e3, en _ (Nat.le_refl _)]
    exact o2
  · rw [e3] at i1
    rw [e2] at i2
    rw [h4 i (by omega)] at i3 ⊢
    rw [e1, e3, en _ (Nat.le_refl _)]
    exact o3 i i1 i2 i3
  · rw [e1] at i1
    rw [e3] at i2
    rw [h4 i (by omega)]
    exact o4 i i1 i2
theorem mg_gvM (hM : gvM k M) (h : mg M M') (hu : M'.2.2.2.1 ≤ 10000) (hp : ∀ j, M.2.2.2.1 ≤ j → j < M'.2.2.2.1 → pv k (M'.1 j)) : gvM k M' := by
  have hmo := fun a ha => mg_mo (a := a) hM h ha
  obtain ⟨h1, h2, h3, h4, h5⟩ := h
  obtain ⟨m1, m2, m3, m4⟩ := hM
  have e : M'.2.2.2.2.1 = M.2.2.2.2.1 := by rw [h1]
  have e' : M'.2.2.2.2.2 = M.2.2.2.2.2 := by rw [h1]
  have em := h2 M.2.2.2.2.1 (Nat.le_refl _)
  refine ⟨⟨by omega, ?_, ?_, ?_⟩, fun a ha => ?_, ⟨?_, hu, ?_, by omega⟩, fun j hj => ?_⟩
  · rw [h2 0 (by omega)]
    exact m1.2.1
  · rw [h2 1 (by omega)]
    exact m1.2.2.1
  · rw [h3 0 (by omega)]
    exact m1.2.2.2
  · rw [e] at ha
    obtain ⟨c1, c2, c3, c4⟩ := m2 a ha
    rw [h2 a (by omega), h3 a ha, h2 (a + 1) (by omega)]
    exact ⟨c1, c2, by omega, hmo a ha⟩
  · rw [e, em]
    omega
  · rw [e, em]
    omega
  · by_cases q : j < M.2.2.2.1
    · rw [h4 j q]
      exact m4 j q
    · exact hp j (by omega) hj
theorem mg_mw {pa hd bd en : Nat → Int32} {x y : Int32} (hM : gvM k M) (h : mg M M') (hw : mw M pa hd bd en x y) : mw M' pa hd bd en x y := by
  obtain ⟨h1, h2, h3, h4, h5⟩ := h
  have e : M'.2.2.2.2.1 = M.2.2.2.2.1 := by rw [h1]
  have e' : M'.2.2.2.2.2 = M.2.2.2.2.2 := by rw [h1]
  rcases hw with hw | hw | ⟨a, b, a1, a2, ⟨q1, q2, q3, q4⟩⟩ | hw
  · exact Or.inl hw
  · exact Or.inr (Or.inl hw)
  · refine Or.inr (Or.inr (Or.inl ⟨a, b, a1, a2, ⟨by omega, by omega, fun ha => ?_, q4⟩⟩))
    obtain ⟨c1, c2, c3, c4⟩ := hM.2.1 a q1
    rw [h2 a (by omega), h3 a q1, h2 (a + 1) (by omega), np_eq (g := M.1) (fun i i1 i2 => h4 i (by omega))]
    exact q3 ha
  · exact Or.inr (Or.inr (Or.inr hw))
theorem mg_rrS (hM : gvM k M) (h : mg M M') (hS : rrS M n S J) : rrS M' n S J := ⟨hS.1, hS.2.1, fun l c hl hc => ⟨(hS.2.2.1 l c hl hc).1, (hS.2.2.1 l c hl hc).2.1, mg_mw hM h (hS.2.2.1 l c hl hc).2.2⟩, fun l i hl hi => mg_mw hM h (hS.2.2.2.1 l i hl hi), hS.2.2.2.2⟩
theorem mg_gv (hv : gv (K, P, E, N, S, M, C, O, L)) (h : mg M M') (hu : M'.2.2.2.1 ≤ 10000) (hp : ∀ j, M.2.2.2.1 ≤ j → j < M'.2.2.2.1 → pv N.2.2 (M'.1 j)) : gv (K, P, E, N, S, M', C, O, L) := by
  obtain ⟨g1, g2, g3, g4, g5, g6, g7, g8⟩ := gv_d hv
  refine ⟨g1, g2, g3, ?_, mg_gvM g5 h hu hp, g6, g7, g8⟩
  have e : M'.2.2.2.2.1 = M.2.2.2.2.1 := by rw [h.1]
  show gvS N.2.2 M'.2.2.2.2.1 S
  rw [e]
  exact g4
theorem gv_ad (hv : gv (K, P, E, N, S, M, C, O, L)) (hu : M.2.2.2.1 < 10000) (hp : pv N.2.2 v) : gv (K, P, E, N, S, adM M v, C, O, L) := mg_gv hv mg_ad hu (fun j j1 j2 => by
  have j2' : j < M.2.2.2.1 + 1 := j2
  have : j = M.2.2.2.1 := by omega
  show pv N.2.2 (ud M.1 M.2.2.2.1 v j)
  rw [this, ud_at]
  exact hp)
theorem gv_bd (hv : gv (K, P, E, N, S, M, C, O, L)) : gv (K, P, E, N, S, bdM M, C, O, L) := mg_gv hv mg_bd (gv_d hv).2.2.2.2.1.2.2.1.2.1 (fun j j1 j2 => absurd j1 (Nat.not_le.mpr j2))
/-- add, keep -/
theorem cq_50 (hR : mj_Rt mp_R Rf) (hv : gv (K, P, E, N, S, M, C, O, L)) (h : RC fb vb (K, P, E, N, S, M, C, O, L) I) (hr' : nc + 1 ≤ X.2.2.1 ∧ ns + 6 ≤ X.2.2.2) (hQ1 : M.2.2.2.1 < 10000 → ∀ I', RC fb vb (K, P, E, N, S, adM M v, C, O, L) I' → Q (.inl none) (sh59, I', Lg, Rf, nc, ns)) (hQ2 : M.2.2.2.1 = 10000 → ∀ I', RCf fb vb (K, P, E, N, S, M, C, O, L) I' → Q (.inr 500) (sh59, I', Lg, Rf, nc + 1, ns + 6)) : mj_call X mj_P (mj_bi X) (d + 2) 50 [.ref 21, .int (nI v)] (sh59, I, Lg, Rf, nc, ns) Q := by
  have h' := h
  obtain ⟨hK, hP, hE, hN, hS, hM, hC, hO, hL, hZ⟩ := rc_d h
  refine c_50 hR (k := M.2.2.2.1) (gv_d hv).2.2.2.2.1.2.2.1.2.1 hM.1 hr' (fun hlt => hQ1 hlt _ ⟨hK, hP, hE, hN, hS, ⟨rfl, hM.2.1, fun j hj => ?_, hM.2.2.2.1, hM.2.2.2.2⟩, hC, hO, hL, hZ⟩) (fun he => hQ2 he _ (rc_f hv h'))
  have hj' : j < M.2.2.2.1 + 1 := hj
  show mj_up (mj_up I 22 M.2.2.2.1 (nI v)) 21 3 _ 22 j = nI (ud M.1 M.2.2.2.1 v j)
  rw [mjs_up_c (by decide)]
  by_cases e : j = M.2.2.2.1
  · rw [e, mjs_up_at, ud_at]
  · rw [mjs_up_ne (Or.inr e), ud_ne e]
    exact hM.2.2.1 j (by omega)
theorem rq_176 (hM' : mj_Rt mm_R Rf) (hv : gv (K, P, E, N, S, M, C, O, L)) (h : RR H (K, P, E, N, S, M, C, O, L) J) {r : Nat} (hr : r < 2 ^ 31) (hrv : mr_ba r = rt v) (hQ1 : M.2.2.2.1 < 10000 → ∀ J', RR H (K, P, E, N, S, adM M v, C, O, L) J' → Q (.inl none) (sh59, J', Lg, Rf, nc, ns)) (hQ2 : M.2.2.2.1 = 10000 → ∀ J', RD H (K, P, E, N, S, M, C, O, L) J' → Q (.inl none) (sh59, J', Lg, Rf, nc, ns)) : mj_call X mj_P (mj_bi X) (d + 2) 176 [.ref 36, .int (nI r)] (sh59, J, Lg, Rf, nc, ns) Q := by
  have hm := mm_rf hM'
  have h' := h
  obtain ⟨hK, hP, hE, hN, hS, hM, hC, hO, hL, hZ⟩ := rr_d h
  have hu : M.2.2.2.1 ≤ 10000 := (gv_d hv).2.2.2.2.1.2.2.1.2.1
  have ek : (nI M.2.2.2.1).toNatClampNeg = M.2.2.2.1 := nI_clamp (by omega)
  refine mj_enter (z := (2, [], mb_176)) (by decide) rfl rfl ?_
  refine mj_blk rfl ?_
  simp +decide only [mjs_0, mjs_1, mjs_2, mjs_3, mjs_ble, true_and, Bool.false_eq_true, if_false, if_true, Nat.reduceAdd, Nat.reduceSub, Nat.reduceLeDiff, false_implies, true_implies, not_false_eq_true, not_true_eq_false, and_true, mm_sh, hm, mjs_up_at, mjs_up_c, mjs_up_f, hM.1]
  by_cases e : M.2.2.2.1 = 10000
  · refine ⟨fun q => absurd (by rw [e]; rfl) q, fun _ => mj_blk rfl ?_⟩
    simp +decide only [mjs_0, mjs_1, mjs_2, mjs_3, mjs_ble, true_and, Bool.false_eq_true, if_false, if_true, Nat.reduceAdd, Nat.reduceSub, Nat.reduceLeDiff, false_implies, true_implies, not_false_eq_true, not_true_eq_false, and_true, mm_sh, hm, mjs_up_at, mjs_up_c, mjs_up_f]
    refine c_106 s59_36 ?_
    rw [if_pos hK.2.2.2]
    simp +decide only [mjs_0, mjs_1, mjs_2, mjs_3, mjs_ble, true_and, Bool.false_eq_true, if_false, if_true, Nat.reduceAdd, Nat.reduceSub, Nat.reduceLeDiff, false_implies, true_implies, not_false_eq_true, not_true_eq_false, and_true, mm_sh, hm, mjs_up_at, mjs_up_c, mjs_up_f]
    refine mj_blk rfl ?_
    simp +decide only [mjs_0, mjs_1, mjs_2, mjs_3, mjs_ble, true_and, Bool.false_eq_true, if_false, if_true, Nat.reduceAdd, Nat.reduceSub, Nat.reduceLeDiff, false_implies, true_implies, not_false_eq_true, not_true_eq_false, and_true, mm_sh, hm, mjs_up_at, mjs_up_c, mjs_up_f]
    exact hQ2 e _ (rr_f (f := 2) (by decide) (by decide) h')
  · refine ⟨fun _ => mj_blk rfl ?_, fun q => absurd (fun q => e ((nI_eq (b := 10000) (by omega) (by decide)).mp q)) q⟩
    simp +decide only [mjs_0, mjs_1, mjs_2, mjs_3, mjs_ble, true_and, Bool.false_eq_true, if_false, if_true, Nat.reduceAdd, Nat.reduceSub, Nat.reduceLeDiff, false_implies, true_implies, not_false_eq_true, not_true_eq_false, and_true, mm_sh, hm, mjs_up_at, mjs_up_c, mjs_up_f, hK.2.2.2]
    refine mj_blk rfl ?_
    simp +decide only [mjs_0, mjs_1, mjs_2, mjs_3, mjs_ble, true_and, Bool.false_eq_true, if_false, if_true, Nat.reduceAdd, Nat.reduceSub, Nat.reduceLeDiff, false_implies, true_implies, not_false_eq_true, not_true_eq_false, and_true, mm_sh, hm, mjs_up_at, mjs_up_c, mjs_up_f, hM.1]
    refine r_123 hr ?_
    rw [hrv]
    simp +decide only [mjs_0, mjs_1, mjs_2, mjs_3, mjs_ble, true_and, Bool.false_eq_true, if_false, if_true, Nat.reduceAdd, Nat.reduceSub, Nat.reduceLeDiff, false_implies, true_implies, not_false_eq_true, not_true_eq_false, and_true, mm_sh, hm, mjs_up_at, mjs_up_c, mjs_up_f, hM.1, ek, nI_1]
    refine ⟨nI_in (by omega) (by decide), mj_blk rfl ?_⟩
    simp +decide only [mjs_0, mjs_1, mjs_2, mjs_3, mjs_ble, true_and, Bool.false_eq_true, if_false, if_true, Nat.reduceAdd, Nat.reduceSub, Nat.reduceLeDiff, false_implies, true_implies, not_false_eq_true, not_true_eq_false, and_true, mm_sh, hm, mjs_up_at, mjs_up_c, mjs_up_f]
    refine hQ1 (by omega) _ ⟨hK, hP, hE, hN, mg_rrS (gv_d hv).2.2.2.2.1 mg_ad hS, ⟨rfl, hM.2.1, fun j hj => ?_⟩, hC, hO, hL, fun c hc => ?_⟩
    · have hj' : j < M.2.2.2.1 + 1 := hj
      show mj_up (mj_up J 52 M.2.2.2.1 _) 36 27 _ 52 j = nI (rt (ud M.1 M.2.2.2.1 v j))
      rw [mjs_up_c (by decide)]
      by_cases e : j = M.2.2.2.1
      · rw [e, mjs_up_at, ud_at]
      · rw [mjs_up_ne (Or.inr e), ud_ne e]
        exact hM.2.2 j (by omega)
    · rw [mj_up_off (by omega), mj_up_off (by omega)]
      exact hZ c hc
/-- beginBody -/
theorem cq_51 (hR : mj_Rt mp_R Rf) (hv : gv (K, P, E, N, S, M, C, O, L)) (h : RC fb vb (K, P, E, N, S, M, C, O, L) I) (hQ : ∀ I', RC fb vb (K, P, E, N, S, bdM M, C, O, L) I' → Q (.inl none) (sh59, I', Lg, Rf, nc, ns)) : mj_call X mj_P (mj_bi X) (d + 1) 51 [.ref 21] (sh59, I, Lg, Rf, nc, ns) Q := by
  obtain ⟨hK, hP, hE, hN, hS, hM, hC, hO, hL, hZ⟩ := rc_d h
  have hg := (gv_d hv).2.2.2.2.1
  refine c_51 hR (k := M.2.2.2.2.1) (by have := hg.2.2.1; omega) hM.2.1 (hQ _ ⟨hK, hP, hE, hN, hS, ⟨hM.1, hM.2.1, hM.2.2.1, hM.2.2.2.1, fun a ha => ?_⟩, hC, hO, hL, ⟨hZ.1, hZ.2.1, hZ.2.2.1, hZ.2.2.2.1, hZ.2.2.2.2.1, ?_⟩⟩)
  · show mj_up I 24 M.2.2.2.2.1 (I 21 3) 24 a = nI (ud M.2.2.1 M.2.2.2.2.1 M.2.2.2.1 a)
    by_cases e : a = M.2.2.2.2.1
    · rw [e, mjs_up_at, ud_at]
      exact hM.1
    · rw [mjs_up_ne (Or.inr e), ud_ne e]
      exact hM.2.2.2.2 a ha
  · rw [mjs_up_ne (Or.inr (by have := hg.1.1; omega))]
    exact hZ.2.2.2.2.2
theorem rr_bd (hv : gv (K, P, E, N, S, M, C, O, L)) (h : RR H (K, P, E, N, S, M, C, O, L) J) : RR H (K, P, E, N, S, bdM M, C, O, L) J := by
  obtain ⟨hK, hP, hE, hN, hS, hM, hC, hO, hL, hZ⟩ := rr_d h
  exact ⟨hK, hP, hE, hN, mg_rrS (gv_d hv).2.2.2.2.1 mg_bd hS, hM, hC, hO, hL, hZ⟩
end MJKP
