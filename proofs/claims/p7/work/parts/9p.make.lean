/-! csname: A NAME MADE, in both -/
theorem gd_app {c : Nat} : ∀ (w : List Nat), (∀ i, i < w.length → (w ++ [c]).getD i 0 = w.getD i 0) ∧ (w ++ [c]).getD w.length 0 = c
  | [] => ⟨fun i hi => absurd hi (Nat.not_lt_zero _), rfl⟩
  | a :: w => by
    obtain ⟨h1, h2⟩ := gd_app (c := c) w
    refine ⟨fun i hi => ?_, ?_⟩
    · cases i with
      | zero => rfl
      | succ i => exact h1 i (by rw [List.length_cons] at hi; omega)
    · exact h2
theorem app_len {c : Nat} {w : List Nat} : (w ++ [c]).length = w.length + 1 := by rw [List.length_append]; rfl
/-- what a primitive's expansion leaves; k0 ticks stood before its own -/
def xr (k0 : Nat) (K : Nat × Nat × Nat) (N : sgN) (S : sgS) (C : sgC) (L : sgL) (K' : Nat × Nat × Nat) (N' : sgN) (S' : sgS) (C' : sgC) (L' : sgL) : Prop := nx N N' ∧ (K.1 ≤ K'.1 ∧ K'.2 = K.2) ∧ tl L' ≤ tl L ∧ sx (k0, K.2) S K' S' ∧ cx C C'
section MJMN
variable {X : mj_X} {d nc ns : Nat} {Q : mj_Q} {I I' J J' H : Nat → Nat → Int32} {Lg : Nat → Nat → Int64} {Rf : Nat → Nat → Option Nat} {fb fb' : Nat → Nat → Int32} {vb : Nat → Int32} {K K' K'' : Nat × Nat × Nat} {P P' P'' : List Nat} {E : sgE} {N N' N'' : sgN} {S S' S'' : sgS} {M : sgM} {C C' C'' : sgC} {O : sgO} {L L' L'' : sgL} {t n kc kr dp x g s' k0 c : Nat} {w : List Nat}
theorem xr_of (hk : k0 ≤ K.1) (h : xs K P N S C L K' P' N' S' C' L') : xr k0 K N S C L K' N' S' C' L' := ⟨h.1, h.2.1, h.2.2.2.1, ⟨h.2.2.2.2.1.1, by have := h.2.2.2.2.1.2.1; show _ + k0 ≤ _; omega, h.2.2.2.2.1.2.2⟩, h.2.2.2.2.2⟩
theorem rc_E0 (h : RC fb vb (K, P, E, N, S, M, C, O, L) I) : RC fb vb (K, P, (dp, []) :: E, N, S, M, C, O, L) I := by
  obtain ⟨hK, hP, hE, hN, hS, hM, hC, hO, hL, hZ⟩ := rc_d h
  exact ⟨hK, hP, ⟨hE.1, fun i hi => absurd hi (Nat.not_lt_zero _), hE.2⟩, hN, hS, hM, hC, hO, hL, hZ⟩
theorem rr_E0 (h : RR H (K, P, E, N, S, M, C, O, L) J) : RR H (K, P, (dp, []) :: E, N, S, M, C, O, L) J := by
  obtain ⟨hK, hP, hE, hN, hS, hM, hC, hO, hL, hZ⟩ := rr_d h
  exact ⟨hK, hP, ⟨fun i hi => absurd hi (Nat.not_lt_zero _), hE⟩, hN, hS, hM, hC, hO, hL, hZ⟩
theorem gv_E0 (h : gv (K, P, E, N, S, M, C, O, L)) (h1 : 1 ≤ K.2.2) (he : em_v (K.2.2 - 1) E) : gv (K, P, (K.2.2, []) :: E, N, S, M, C, O, L) := ⟨h.1, ⟨⟨h1, Nat.le_refl _, Nat.zero_le _, fun c hc => absurd hc (by simp)⟩, he⟩, h.2.2⟩
theorem rc_Ep (h : RC fb vb (K, P, (dp, w) :: E, N, S, M, C, O, L) I) : RC fb vb (K, P, E, N, S, M, C, O, L) (mj_up I 28 1 (nI (em_t E))) := by
  obtain ⟨hK, hP, hE, hN, hS, hM, hC, hO, hL, hZ⟩ := rc_d h
  exact ⟨hK, hP, ⟨rfl, hE.2.2⟩, hN, hS, hM, hC, hO, hL, hZ⟩
theorem rr_Ep (h : RR H (K, P, (dp, w) :: E, N, S, M, C, O, L) J) : RR H (K, P, E, N, S, M, C, O, L) J := by
  obtain ⟨hK, hP, hE, hN, hS, hM, hC, hO, hL, hZ⟩ := rr_d h
  exact ⟨hK, hP, hE.2, hN, hS, hM, hC, hO, hL, hZ⟩
theorem rc_Ea (h : RC fb vb (K, P, (dp, w) :: E, N, S, M, C, O, L) I) : RC fb vb (K, P, (dp, w ++ [c]) :: E, N, S, M, C, O, L) (mj_up (mj_up I 29 (em_t E + w.length) (nI c)) 28 1 (nI (em_t E + w.length + 1))) := by
  obtain ⟨hK, hP, hE, hN, hS, hM, hC, hO, hL, hZ⟩ := rc_d h
  obtain ⟨e1, e2, e3⟩ := hE
  have g1 := (gd_app (c := c) w).1
  have g2 := (gd_app (c := c) w).2
  have e2' : ∀ i, i < w.length → I 29 (em_t E + i) = nI (w.getD i 0) := e2
  refine ⟨hK, hP, ⟨?_, fun i hi => ?_, ?_⟩, hN, hS, hM, hC, hO, hL, hZ⟩
  · show nI (em_t E + w.length + 1) = nI (em_t E + (w ++ [c]).length)
    rw [app_len, Nat.add_assoc]
  · show mj_up (mj_up I 29 (em_t E + w.length) (nI c)) 28 1 _ 29 (em_t E + i) = nI ((w ++ [c]).getD i 0)
    have hi' : i < w.length + 1 := by
      have : i < (w ++ [c]).length := hi
      rw [app_len] at this
      exact this
    rw [mjs_up_c (by decide)]
    by_cases e : i = w.length
    · rw [e, mjs_up_at, g2]
    · rw [mjs_up_f (by omega), g1 i (by omega)]
      exact e2' i (by omega)
  · refine em_ceq e3 (fun j hj => ?_)
    show mj_up (mj_up I 29 (em_t E + w.length) (nI c)) 28 1 _ 29 j = I 29 j
    rw [mjs_up_c (by decide), mjs_up_f (by omega)]
theorem rr_Ea (h1 : 1 ≤ dp) (he : em_v (dp - 1) E) (h : RR H (K, P, (dp, w) :: E, N, S, M, C, O, L) J) : RR H (K, P, (dp, w ++ [c]) :: E, N, S, M, C, O, L) (mj_up J 43 (41 * dp + w.length) (nI c)) := by
  obtain ⟨hK, hP, hE, hN, hS, hM, hC, hO, hL, hZ⟩ := rr_d h
  obtain ⟨e2, e3⟩ := hE
  have g1 := (gd_app (c := c) w).1
  have g2 := (gd_app (c := c) w).2
  have e2' : ∀ i, i < w.length → J 43 (41 * dp + i) = nI (w.getD i 0) := e2
  refine ⟨hK, hP, ⟨fun i hi => ?_, ?_⟩, hN, hS, hM, hC, hO, hL, fun b hb => by rw [mj_up_off (by omega)]; exact hZ b hb⟩
  · show mj_up J 43 (41 * dp + w.length) (nI c) 43 (41 * dp + i) = nI ((w ++ [c]).getD i 0)
    have hi' : i < w.length + 1 := by
      have : i < (w ++ [c]).length := hi
      rw [app_len] at this
      exact this
    by_cases e : i = w.length
    · rw [e, mjs_up_at, g2]
    · rw [mjs_up_f (by omega), g1 i (by omega)]
      exact e2' i (by omega)
  · refine em_req he e3 (fun j hj => ?_)
    rw [mjs_up_f (by omega)]
theorem rr_sp (h : RR H (K, P, E, N, S, M, C, O, L) J) (h1 : ∀ b q, b ≠ 36 → b ≠ 42 → J' b q = J b q) (h2 : ∀ q, q ≠ 15 → J' 36 q = J 36 q) : RR H (K, P, E, N, S, M, C, O, L) J' := by
  obtain ⟨hK, hP, hE, hN, hS, hM, hC, hO, hL, hZ⟩ := rr_d h
  refine rr_L h (fun b q b1 b2 b3 => h1 b q b1 b3) (fun q q1 q2 q3 q4 q5 q6 => h2 q q6) ?_
  obtain ⟨l1, l2, l3, ⟨lp, l4, l5, l6, l7⟩, ⟨ln, l8, l9⟩, l10⟩ := hL
  exact ⟨(h2 1 (by decide)).trans l1, (h2 5 (by decide)).trans l2, fun he => (h2 10 (by decide)).trans (l3 he), ⟨lp, (h2 9 (by decide)).trans l4, (h2 8 (by decide)).trans l5, l6, fun i hi => (h1 39 _ (by decide) (by decide)).trans (l7 i hi)⟩, ⟨ln, (h2 6 (by decide)).trans l8, l9⟩, fun j j1 j2 => (h1 37 j (by decide) (by decide)).trans (l10 j j1 j2)⟩
/-- the name spelled out -/
theorem r_135s (hM' : mj_Rt mm_R Rf) {D : Nat} (hd : K.2.2 = dp) (hdp : dp ≤ 40) (hw : w.length ≤ 40) (hb : ∀ i, i < w.length → w.getD i 0 < 256) (hq : ∀ J', RR H (K, P, (dp, w) :: E, N, S, M, C, O, L) J' → rd_S J' 36 (fun j => w.getD j 0) w.length → mj_rn X (mj_hd []) (mj_call X mj_P (mj_bi X) (D + 2)) mb_135 128 [some (.ref 36), none, none, none] [] (sh59, J', Lg, Rf, nc, ns) Q) : ∀ j i (J' : Nat → Nat → Int32), i + j = w.length → RR H (K, P, (dp, w) :: E, N, S, M, C, O, L) J' → J' 36 15 = nI i → (∀ q, q < i → J' 42 q = nI (w.getD q 0)) → mj_rn X (mj_hd []) (mj_call X mj_P (mj_bi X) (D + 2)) mb_135 99 [some (.ref 36), some (.int (nI w.length)), none, some (.int (nI i))] [] (sh59, J', Lg, Rf, nc, ns) Q := by
  have hm := mm_rf hM'
  intro j
  induction j with
  | zero =>
    intro i J' hi hJ h15 h42
    have : i = w.length := by omega
    subst this
    refine mj_blk rfl ?_
    simp +decide only [mjs_0, mjs_1, mjs_2, mjs_3, mjs_ble, true_and, Bool.false_eq_true, if_false, if_true, Nat.reduceAdd, Nat.reduceSub, Nat.reduceLeDiff, false_implies, true_implies, not_false_eq_true, not_true_eq_false, and_true]
    exact ⟨fun _ => mj_nv (hq J' hJ ⟨h15, hw, fun q hq => ⟨h42 q hq, hb q hq⟩⟩), fun q => absurd (nI_le (a := w.length) (b := w.length) (Nat.le_refl _) (by omega)) q⟩
  | succ j ih =>
    intro i J' hi hJ h15 h42
    obtain ⟨hK, hP, hE, hN, hS, hM, hC, hO, hL, hZ⟩ := rr_d hJ
    have j38 : J' 36 38 = nI dp := hK.2.2.1.trans (by rw [hd])
    have e1 : (41 : Int32) * nI dp = nI (41 * dp) := pk_mul 41 dp
    have e2 : (nI (41 * dp + i)).toNatClampNeg = 41 * dp + i := nI_clamp (by omega)
    have t1 : J' 43 (41 * dp + i) = nI (w.getD i 0) := hE.1 i (show i < w.length by omega)
    refine mj_blk rfl ?_
    simp +decide only [mjs_0, mjs_1, mjs_2, mjs_3, mjs_ble, true_and, Bool.false_eq_true, if_false, if_true, Nat.reduceAdd, Nat.reduceSub, Nat.reduceLeDiff, false_implies, true_implies, not_false_eq_true, not_true_eq_false, and_true]
    refine ⟨fun q => absurd q (nI_ge (a := i) (b := w.length) (by omega) (by omega)), fun _ => mj_blk rfl ?_⟩
    simp +decide only [mjs_0, mjs_1, mjs_2, mjs_3, mjs_ble, true_and, Bool.false_eq_true, if_false, if_true, Nat.reduceAdd, Nat.reduceSub, Nat.reduceLeDiff, false_implies, true_implies, not_false_eq_true, not_true_eq_false, and_true, mm_sh, hm, mjs_up_at, mjs_up_c, mjs_up_f, j38, e1, nI_add, e2, t1]
    refine ⟨nI_in (by omega) (by decide), ?_⟩
    refine r_111 hM' (k := i) (by omega) h15 hK.2.2.2 (fun _ => ?_) (fun hh => absurd hh (by omega))
    simp +decide only [mjs_0, mjs_1, mjs_2, mjs_3, mjs_ble, true_and, Bool.false_eq_true, if_false, if_true, Nat.reduceAdd, Nat.reduceSub, Nat.reduceLeDiff, false_implies, true_implies, not_false_eq_true, not_true_eq_false, and_true, mm_sh, hm, mjs_up_at, mjs_up_c, mjs_up_f, nI_1]
    refine mj_nv (ih (i + 1) _ (by omega) (rr_sp hJ (fun b q b1 b2 => by rw [mjs_up_c b1, mjs_up_c b2]) (fun q hq => by rw [mjs_up_f hq, mjs_up_c (by decide)])) mjs_up_at (fun q hq => ?_))
    rw [mjs_up_c (by decide)]
    by_cases e : q = i
    · rw [e, mjs_up_at]
    · rw [mjs_up_f e]
      exact h42 q (by omega)
theorem sl_nm {x : Nat} (hx : x < 1036) : cm_sl (65536 + x) = 768 + x := by
  unfold cm_sl
  rw [if_pos (by omega)]
  omega
/-- the meaning of a name: none in both, or in none -/
theorem rr_zero (h : RR H (K, P, E, N, S, M, C, O, L) J) (hv : gv (K, P, E, N, S, M, C, O, L)) (hx : x < N.2.2) : (mr_me J 36 S.2.2.1 (rt (65536 + x)) = 0 ↔ S.1 S.2.2.1 (768 + x) = 0) := by
  have hk : N.2.2 ≤ 1036 := (gv_d hv).2.2.1.2.1
  have ht : tv N.2.2 (65536 + x) := tv_nm hx
  have me := (rr_me h hv ht).1
  have hM := (gv_d hv).2.2.2.2.1
  have hl := gm_lt hv ht
  have e := (gm_v hv ht).2 (by omega) (by omega)
  rw [sl_nm (by omega)] at e
  rw [e]
  rcases mw_n hM (by omega) me with ⟨z, y⟩ | ⟨p, p1, p2, z, y⟩ | ⟨a, b, z, b1, y, _⟩ | ⟨c, c1, z, y⟩ | ⟨m, m1, z, y⟩
  · rw [y, z]
    decide
  · have := rp_lt (i := p - 1) (k := 36) (by omega) (by decide)
    rw [y]
    exact ⟨fun q => absurd q (nI_ne0 (by omega) (by omega)), fun q => absurd q (nI_ne0 (by omega) (by omega))⟩
  · rw [y]
    exact ⟨fun q => absurd q (nI_ne0 (by omega) (by omega)), fun q => absurd q (nI_ne0 (by omega) (by omega))⟩
  · rw [y]
    exact ⟨fun q => absurd q (nI_ne0 (by omega) (by omega)), fun q => absurd q (nI_ne0 (by omega) (by omega))⟩
  · rw [y]
    exact ⟨fun q => absurd q (nI_ne0 (by omega) (by omega)), fun q => absurd q (nI_ne0 (by omega) (by omega))⟩
/-- a meaning set to relax where there is none -/
def rlx (S : sgS) (x s' : Nat) : sgS := if S.1 S.2.2.1 (768 + x) = 0 then stS S (768 + x) (nI 65555) 0 s' else S
theorem mv_rlx {made : Nat} : mv made (nI 65555) := Or.inr (Or.inl ⟨19, by decide, by decide, rfl⟩)
theorem gv_rlx (hv : gv (K, P, E, N, S, M, C, O, L)) (hx : x < N.2.2) : gv (K, P, E, N, rlx S x s', M, C, O, L) := by
  unfold rlx
  split
  · exact gv_set hv (fun hh => absurd hh (by omega)) (fun _ => ⟨by omega, mv_rlx⟩)
  · exact hv
theorem sx_rlx (hs : s' ≤ S.2.2.2 + 1) (hk : k0 + 1 ≤ K.1) : sx (k0, K.2) S K (rlx S x s') := by
  unfold rlx
  by_cases e : S.1 S.2.2.1 (768 + x) = 0
  · rw [if_pos e]
    refine ⟨rfl, by show s' + k0 ≤ _; omega, rfl, fun l c hl hc => stS_ne (by omega), fun c hc => ?_⟩
    by_cases ec : c = 768 + x
    · rw [ec]
      rcases stS_at (S := S) (x := 768 + x) (v := nI 65555) (g := 0) (s' := s') (l := S.2.2.1) with ⟨a, _⟩ | ⟨a, _⟩
      · exact Or.inl a
      · exact Or.inr ⟨e, a⟩
    · exact Or.inl (stS_ne ec)
  · rw [if_neg e]
    exact ⟨rfl, by show _ + k0 ≤ _; omega, rfl, fun _ _ _ _ => rfl, fun _ _ => Or.inl rfl⟩
/-- the end of the reference's makeName: the name's meaning, the name put -/
theorem r_135e (hM' : mj_Rt mm_R Rf) {D : Nat} (hv : gv (K, P, E, N, S, M, C, O, L)) (hJ : RR H (K, P, E, N, S, M, C, O, L) J) (hx : x < N.2.2) (hp : P.length ≤ 10000) (hq : ∀ J', RR H (K, (65536 + x) :: P, E, N, rlx S x s', M, C, O, L) J' → Q (.inl none) (sh59, J', Lg, Rf, nc, ns)) : mj_rn X (mj_hd []) (mj_call X mj_P (mj_bi X) (D + 3)) mb_135 140 [some (.ref 36), none, none, some (.int (nI (rt (65536 + x))))] [] (sh59, J, Lg, Rf, nc, ns) Q := by
  have hm := mm_rf hM'
  have hk : N.2.2 ≤ 1036 := (gv_d hv).2.2.1.2.1
  have hk1 : 36 ≤ N.2.2 := (gv_d hv).2.2.1.1
  have ht : tv N.2.2 (65536 + x) := tv_nm hx
  have rl := rt_lt hk hk1 ht
  have me := rr_me hJ hv ht
  have hz := rr_zero hJ hv hx
  unfold rlx at hq
  refine mj_blk rfl ?_
  simp +decide only [mjs_0, mjs_1, mjs_2, mjs_3, mjs_ble, true_and, Bool.false_eq_true, if_false, if_true, Nat.reduceAdd, Nat.reduceSub, Nat.reduceLeDiff, false_implies, true_implies, not_false_eq_true, not_true_eq_false, and_true, mm_sh, hm, mjs_up_at, mjs_up_c, mjs_up_f]
  refine r_125 (mm_W hM') (by omega) (rr_d hJ).2.2.2.2.1.1 (rr_d hJ).2.2.2.2.1.2.2.2.2 me.2.1 ?_
  simp +decide only [mjs_0, mjs_1, mjs_2, mjs_3, mjs_ble, true_and, Bool.false_eq_true, if_false, if_true, Nat.reduceAdd, Nat.reduceSub, Nat.reduceLeDiff, false_implies, true_implies, not_false_eq_true, not_true_eq_false, and_true]
  by_cases e : S.1 S.2.2.1 (768 + x) = 0
  · rw [if_pos e] at hq
    refine ⟨fun q => absurd (hz.mpr e) q, fun _ => mj_blk rfl ?_⟩
    simp +decide only [mjs_0, mjs_1, mjs_2, mjs_3, mjs_ble, true_and, Bool.false_eq_true, if_false, if_true, Nat.reduceAdd, Nat.reduceSub, Nat.reduceLeDiff, false_implies, true_implies, not_false_eq_true, not_true_eq_false, and_true, mm_sh, hm, mjs_up_at, mjs_up_c, mjs_up_f]
    refine rq_128 (g := 0) (v := nI 65555) hM' hJ hv (Or.inr ⟨by omega, by omega⟩) (by omega) (Or.inr (Or.inl ⟨19, by decide, by decide, rfl, rfl⟩)) (Or.inl rfl) (fun J1 c1 => ?_)
    rw [sl_nm (by omega)] at c1
    simp +decide only [mjs_0, mjs_1, mjs_2, mjs_3, mjs_ble, true_and, Bool.false_eq_true, if_false, if_true, Nat.reduceAdd, Nat.reduceSub, Nat.reduceLeDiff, false_implies, true_implies, not_false_eq_true, not_true_eq_false, and_true, mm_sh, hm, mjs_up_at, mjs_up_c, mjs_up_f]
    refine mj_blk rfl ?_
    simp +decide only [mjs_0, mjs_1, mjs_2, mjs_3, mjs_ble, true_and, Bool.false_eq_true, if_false, if_true, Nat.reduceAdd, Nat.reduceSub, Nat.reduceLeDiff, false_implies, true_implies, not_false_eq_true, not_true_eq_false, and_true, mm_sh, hm, mjs_up_at, mjs_up_c, mjs_up_f]
    refine rq_118 hM' (c1 s') (by omega) (by omega) (fun J2 c2 => ?_)
    simp +decide only [mjs_0, mjs_1, mjs_2, mjs_3, mjs_ble, true_and, Bool.false_eq_true, if_false, if_true, Nat.reduceAdd, Nat.reduceSub, Nat.reduceLeDiff, false_implies, true_implies, not_false_eq_true, not_true_eq_false, and_true, mm_sh, hm, mjs_up_at, mjs_up_c, mjs_up_f]
    exact hq J2 c2
  · rw [if_neg e] at hq
    refine ⟨fun _ => mj_blk rfl ?_, fun q => absurd (fun hh => e (hz.mp hh)) q⟩
    simp +decide only [mjs_0, mjs_1, mjs_2, mjs_3, mjs_ble, true_and, Bool.false_eq_true, if_false, if_true, Nat.reduceAdd, Nat.reduceSub, Nat.reduceLeDiff, false_implies, true_implies, not_false_eq_true, not_true_eq_false, and_true, mm_sh, hm, mjs_up_at, mjs_up_c, mjs_up_f]
    refine rq_118 hM' hJ (by omega) (by omega) (fun J2 c2 => ?_)
    simp +decide only [mjs_0, mjs_1, mjs_2, mjs_3, mjs_ble, true_and, Bool.false_eq_true, if_false, if_true, Nat.reduceAdd, Nat.reduceSub, Nat.reduceLeDiff, false_implies, true_implies, not_false_eq_true, not_true_eq_false, and_true, mm_sh, hm, mjs_up_at, mjs_up_c, mjs_up_f]
    exact hq J2 c2
/-- behind a fault makeName ends -/
theorem f_135 (hM' : mj_Rt mm_R Rf) {D : Nat} {g' : sg} {y z : Int32} (hJ : RD H g' J) (hq : ∀ J', RD H g' J' → Q (.inl none) (sh59, J', Lg, Rf, nc, ns)) : mj_rn X (mj_hd []) (mj_call X mj_P (mj_bi X) (D + 2)) mb_135 7 [some (.ref 36), some (.int y), some (.int z), none] [] (sh59, J, Lg, Rf, nc, ns) Q := by
  have hm := mm_rf hM'
  refine mj_blk rfl ?_
  simp +decide only [mjs_0, mjs_1, mjs_2, mjs_3, mjs_ble, true_and, Bool.false_eq_true, if_false, if_true, Nat.reduceAdd, Nat.reduceSub, Nat.reduceLeDiff, false_implies, true_implies, not_false_eq_true, not_true_eq_false, and_true, mm_sh, hm, mjs_up_at, mjs_up_c, mjs_up_f]
  refine ⟨fun _ => mj_blk rfl ?_, fun q => absurd (rd_ne hJ) q⟩
  simp +decide only [mjs_0, mjs_1, mjs_2, mjs_3, mjs_ble, true_and, Bool.false_eq_true, if_false, if_true, Nat.reduceAdd, Nat.reduceSub, Nat.reduceLeDiff, false_implies, true_implies, not_false_eq_true, not_true_eq_false, and_true, mm_sh, hm, mjs_up_at, mjs_up_c, mjs_up_f]
  refine ⟨fun q => absurd q (rd_nle hJ), fun _ => mj_blk rfl ?_⟩
  simp +decide only [mjs_0, mjs_1, mjs_2, mjs_3, mjs_ble, true_and, Bool.false_eq_true, if_false, if_true, Nat.reduceAdd, Nat.reduceSub, Nat.reduceLeDiff, false_implies, true_implies, not_false_eq_true, not_true_eq_false, and_true, mm_sh, hm, mjs_up_at, mjs_up_c, mjs_up_f]
  exact hq J hJ
theorem f_135b (hM' : mj_Rt mm_R Rf) {D : Nat} {g' : sg} {y : Int32} (hJ : RD H g' J) (hq : ∀ J', RD H g' J' → Q (.inl none) (sh59, J', Lg, Rf, nc, ns)) : mj_rn X (mj_hd []) (mj_call X mj_P (mj_bi X) (D + 3)) mb_135 76 [some (.ref 36), some (.int y), none, none] [] (sh59, J, Lg, Rf, nc, ns) Q := by
  have hm := mm_rf hM'
  refine mj_blk rfl ?_
  simp +decide only [mjs_0, mjs_1, mjs_2, mjs_3, mjs_ble, true_and, Bool.false_eq_true, if_false, if_true, Nat.reduceAdd, Nat.reduceSub, Nat.reduceLeDiff, false_implies, true_implies, not_false_eq_true, not_true_eq_false, and_true, mm_sh, hm, mjs_up_at, mjs_up_c, mjs_up_f]
  refine f_130 s59_36 (rd_ne hJ) (rd_nle hJ) ?_
  simp +decide only [mjs_0, mjs_1, mjs_2, mjs_3, mjs_ble, true_and, Bool.false_eq_true, if_false, if_true, Nat.reduceAdd, Nat.reduceSub, Nat.reduceLeDiff, false_implies, true_implies, not_false_eq_true, not_true_eq_false, and_true, mm_sh, hm, mjs_up_at, mjs_up_c, mjs_up_f]
  exact mj_nv (f_135 (D := D + 1) hM' hJ hq)
end MJMN
