/-! WHAT CONDITIONS LEAVE OUT, in both -/
def ge (P : List Nat) (N : sgN) (L : sgL) (P' : List Nat) (N' : sgN) (L' : sgL) : Prop := nx N N' ∧ P'.length + tl L' ≤ P.length + tl L ∧ P'.length ≤ P.length ∧ tl L' ≤ tl L
theorem ge_rf {P : List Nat} {N : sgN} {L : sgL} : ge P N L P N L := ⟨nx_rf, Nat.le_refl _, Nat.le_refl _, Nat.le_refl _⟩
theorem ge_tr {P P' P'' : List Nat} {N N' N'' : sgN} {L L' L'' : sgL} (h : ge P N L P' N' L') (h' : ge P' N' L' P'' N'' L'') : ge P N L P'' N'' L'' := ⟨nx_tr h.1 h'.1, Nat.le_trans h'.2.1 h.2.1, Nat.le_trans h'.2.2.1 h.2.2.1, Nat.le_trans h'.2.2.2 h.2.2.2⟩
section MJCD
variable {X : mj_X} {d nc ns : Nat} {Q : mj_Q} {I I' J J' H : Nat → Nat → Int32} {Lg : Nat → Nat → Int64} {Rf : Nat → Nat → Option Nat} {fb : Nat → Nat → Int32} {vb : Nat → Int32} {K : Nat × Nat × Nat} {P : List Nat} {E : sgE} {N : sgN} {S : sgS} {M : sgM} {C : sgC} {O : sgO} {L L' : sgL} {t : Nat}
theorem gv_C {C' : sgC} (h : gv (K, P, E, N, S, M, C, O, L)) (h' : gvC C') : gv (K, P, E, N, S, M, C', O, L) := ⟨h.1, h.2.1, h.2.2.1, h.2.2.2.1, h.2.2.2.2.1, h', h.2.2.2.2.2.2.1, h.2.2.2.2.2.2.2⟩
theorem gv_P {P' : List Nat} (h : gv (K, P, E, N, S, M, C, O, L)) (h' : ∀ t ∈ P', tv N.2.2 t) : gv (K, P', E, N, S, M, C, O, L) := ⟨h', h.2⟩
theorem gv_P1 (h : gv (K, P, E, N, S, M, C, O, L)) (h' : tv N.2.2 t) : gv (K, t :: P, E, N, S, M, C, O, L) := gv_P h (fun x hx => by
  rcases List.mem_cons.mp hx with rfl | hx
  · exact h'
  · exact (gv_d h).1 x hx)
theorem gp_le (hv : gv (K, P, E, N, S, M, C, O, L)) (ht : tv N.2.2 t) : gp S t ≤ 36 := by
  have h1 := (gm_v hv ht).1
  have hm := gvM_made (gv_d hv).2.2.2.2.1
  unfold gp
  split
  · rcases h1 with h | h | ⟨a, h1, h2⟩ | h | h <;> omega
  · omega
/-- conditions of the class changed at a place, or cut -/
theorem rc_C {C' : sgC} (h : RC fb vb (K, P, E, N, S, M, C, O, L) I) (hf : ∀ b q, b ≠ 25 → b ≠ 26 → b ≠ 27 → I' b q = I b q) (h25 : ∀ q, q ≠ 2 → I' 25 q = I 25 q) (hC' : rcC C' I') : RC fb vb (K, P, E, N, S, M, C', O, L) I' := by
  obtain ⟨hK, hP, hE, hN, hS, hM, hC, hO, hL, hZ⟩ := rc_d h
  refine mx_on (fun I' => rcC C' I' → RC fb vb (K, P, E, N, S, M, C', O, L) I') [25, 26, 27] (fun b q hb => hf b q (mxm_ne hb (by decide)) (mxm_ne hb (by decide)) (mxm_ne hb (by decide))) ?_ hC'
  intro a1
  exact ⟨hK, hP, hE, hN, hS, hM, a1, hO, hL, hZ⟩
theorem rr_C {C' : sgC} (h : RR H (K, P, E, N, S, M, C, O, L) J) (hf : ∀ b q, b ≠ 36 → b ≠ 56 → b ≠ 57 → J' b q = J b q) (h36 : ∀ q, q ≠ 33 → J' 36 q = J 36 q) (hC' : rrC C' J') : RR H (K, P, E, N, S, M, C', O, L) J' := by
  obtain ⟨hK, hP, hE, hN, hS, hM, hC, hO, hL, hZ⟩ := rr_d h
  refine mx_on (fun J' => rrC C' J' → (∀ q, q ≠ 33 → J' 36 q = J 36 q) → RR H (K, P, E, N, S, M, C', O, L) J') [36, 56, 57] (fun b q hb => hf b q (mxm_ne hb (by decide)) (mxm_ne hb (by decide)) (mxm_ne hb (by decide))) ?_ hC' h36
  intro a1 f
  obtain ⟨rn, rl, n1, n2⟩ := hN
  obtain ⟨l1, l2, l3, ⟨lp, l4, l5, l6, l7⟩, ⟨ln, l8, l9⟩, l10⟩ := hL
  exact ⟨⟨(f 36 (by decide)).trans hK.1, (f 37 (by decide)).trans hK.2.1, (f 38 (by decide)).trans hK.2.2.1, (f 39 (by decide)).trans hK.2.2.2⟩, ⟨(f 29 (by decide)).trans hP.1, hP.2⟩, hE, ⟨rn, rl, ⟨(f 11 (by decide)).trans n1.1, n1.2⟩, n2⟩, ⟨(f 17 (by decide)).trans hS.1, hS.2⟩, ⟨(f 27 (by decide)).trans hM.1, (f 22 (by decide)).trans hM.2.1, hM.2.2⟩, a1, ⟨⟨(f 3 (by decide)).trans hO.1.1, hO.1.2⟩, (f 40 (by decide)).trans hO.2⟩, ⟨(f 1 (by decide)).trans l1, (f 5 (by decide)).trans l2, fun he => (f 10 (by decide)).trans (l3 he), ⟨lp, (f 9 (by decide)).trans l4, (f 8 (by decide)).trans l5, l6, l7⟩, ⟨ln, (f 6 (by decide)).trans l8, l9⟩, l10⟩, fun c hc => (mx_z hc rfl).trans (hZ c hc)⟩
theorem rc_Cn {c : Nat} (h : RC fb vb (K, P, E, N, S, M, C, O, L) I) (hc : c ≤ C.1) : RC fb vb (K, P, E, N, S, M, (c, C.2), O, L) (mj_up I 25 2 (nI c)) :=
  rc_C h (fun b q b1 _ _ => mjs_up_c b1) (fun q hq => mjs_up_f hq) ⟨rfl, fun j hj => (rc_d h).2.2.2.2.2.2.1.2 j (Nat.lt_of_lt_of_le hj hc)⟩
theorem rr_Cn {c : Nat} (h : RR H (K, P, E, N, S, M, C, O, L) J) (hc : c ≤ C.1) : RR H (K, P, E, N, S, M, (c, C.2), O, L) (mj_up J 36 33 (nI c)) :=
  rr_C h (fun b q b1 _ _ => mjs_up_c b1) (fun q hq => mjs_up_f hq) ⟨rfl, fun j hj => (rr_d h).2.2.2.2.2.2.1.2 j (Nat.lt_of_lt_of_le hj hc)⟩
theorem rc_Cs {j s : Nat} (h : RC fb vb (K, P, E, N, S, M, C, O, L) I) : RC fb vb (K, P, E, N, S, M, (C.1, ud C.2.1 j s, C.2.2), O, L) (mj_up I 26 j (nI s)) := by
  refine rc_C h (fun b q _ b2 _ => mjs_up_c b2) (fun q hq => mjs_up_c (by decide)) ⟨(rc_d h).2.2.2.2.2.2.1.1, fun i hi => ⟨?_, ((rc_d h).2.2.2.2.2.2.1.2 i hi).2⟩⟩
  show mj_up I 26 j (nI s) 26 i = nI (ud C.2.1 j s i)
  by_cases e : i = j
  · rw [e, mjs_up_at, ud_at]
  · rw [mjs_up_f e, ud_ne e]
    exact ((rc_d h).2.2.2.2.2.2.1.2 i hi).1
theorem rr_Cs {j s : Nat} (h : RR H (K, P, E, N, S, M, C, O, L) J) : RR H (K, P, E, N, S, M, (C.1, ud C.2.1 j s, C.2.2), O, L) (mj_up J 57 j (nI s)) := by
  refine rr_C h (fun b q _ _ b3 => mjs_up_c b3) (fun q hq => mjs_up_c (by decide)) ⟨(rr_d h).2.2.2.2.2.2.1.1, fun i hi => ⟨?_, ((rr_d h).2.2.2.2.2.2.1.2 i hi).2⟩⟩
  show mj_up J 57 j (nI s) 57 i = nI (ud C.2.1 j s i)
  by_cases e : i = j
  · rw [e, mjs_up_at, ud_at]
  · rw [mjs_up_f e, ud_ne e]
    exact ((rr_d h).2.2.2.2.2.2.1.2 i hi).1
theorem p_20l (hR : mj_Rt mp_R Rf) (hM' : mj_Rt mm_R Rf) (hr' : nc + 1 ≤ X.2.2.1 ∧ ns + 6 ≤ X.2.2.2) {pr c : Nat} (hpr : pr = 15 ∨ pr = 16) (hc : C.1 = c + 1) : ∀ (m w i : Nat) (P : List Nat) (N : sgN) (L : sgL) (I : Nat → Nat → Int32), P.length + tl L ≤ m → P.length ≤ 10000 → i + m ≤ 20000 → w ≤ i → gv (K, P, E, N, S, M, C, O, L) → RC fb vb (K, P, E, N, S, M, C, O, L) I →
    (∀ P' N' L' I', gv (K, P', E, N', S, M, (c, C.2), O, L') → RC fb vb (K, P', E, N', S, M, (c, C.2), O, L') I' → ge P N L P' N' L' → RB X Rf mb_153 6 86 [some (.ref 36), none, some (.int (nI pr)), none, some (.int (nI w)), none] [] (K, P, E, N, S, M, C, O, L) none (K, P', E, N', S, M, (c, C.2), O, L') → Q (.inl none) (sh59, I', Lg, Rf, nc, ns)) →
    (∀ g' I', RCf fb vb g' I' → RBf X Rf mb_153 6 86 [some (.ref 36), none, some (.int (nI pr)), none, some (.int (nI w)), none] [] (K, P, E, N, S, M, C, O, L) none g' → Q (.inr 500) (sh59, I', Lg, Rf, nc + 1, ns + 6)) →
    mj_rn X (mj_hd []) (mj_call X mj_P (mj_bi X) (d + 3)) mb_20 120 [some (.ref 25), none, none, some (.int (nI c)), none, some (.int (nI (w + 1))), some (.int (nI i)), none] [] (sh59, I, Lg, Rf, nc, ns) Q := by
  have hr := mc_rf hR
  have hm := mm_rf hM'
  have npr : ¬ nI pr = 17 := by
    rcases hpr with rfl | rfl <;> decide
  intro m
  induction m with
  | zero =>
    intro w i P N L I h1 h2 h3 h4 hv h hA hF
    refine mj_blk rfl ?_
    simp +decide only [mjs_0, mjs_1, mjs_2, mjs_3, mjs_ble, true_and, Bool.false_eq_true, if_false, if_true, Nat.reduceAdd, Nat.reduceSub, Nat.reduceLeDiff, false_implies, true_implies, not_false_eq_true, not_true_eq_false, and_true]
    refine ⟨fun q => absurd q (nI_ge (a := i) (b := 1000000000) (by omega) (by decide)), fun _ => mj_blk rfl ?_⟩
    simp +decide only [mjs_0, mjs_1, mjs_2, mjs_3, mjs_ble, true_and, Bool.false_eq_true, if_false, if_true, Nat.reduceAdd, Nat.reduceSub, Nat.reduceLeDiff, false_implies, true_implies, not_false_eq_true, not_true_eq_false, and_true]
    refine ⟨fun q => absurd q (nI_nle (by omega) (by omega)), fun _ => mj_blk rfl ?_⟩
    simp +decide only [mjs_0, mjs_1, mjs_2, mjs_3, mjs_ble, true_and, Bool.false_eq_true, if_false, if_true, Nat.reduceAdd, Nat.reduceSub, Nat.reduceLeDiff, false_implies, true_implies, not_false_eq_true, not_true_eq_false, and_true, mc_sh, hr, mjs_up_at, mjs_up_c, mjs_up_f]
    refine p_85n (d := d + 1) hR hM' hv h h2 hr' (fun t P' N' L' I' a1 a2 a3 a4 a5 a6 a7 a8 => absurd a4 (by omega)) (fun g' I' a1 a2 => ?_)
    simp +decide only [mjs_0, mjs_1, mjs_2, mjs_3, mjs_ble, true_and, Bool.false_eq_true, if_false, if_true, Nat.reduceAdd, Nat.reduceSub, Nat.reduceLeDiff, false_implies, true_implies, not_false_eq_true, not_true_eq_false, and_true]
    refine hF g' I' a1 ?_
    intro H Lg d nc ns J Q hJ hq
    refine mj_blk rfl ?_
    simp +decide only [mjs_0, mjs_1, mjs_2, mjs_3, mjs_ble, true_and, Bool.false_eq_true, if_false, if_true, Nat.reduceAdd, Nat.reduceSub, Nat.reduceLeDiff, false_implies, true_implies, not_false_eq_true, not_true_eq_false, and_true, mm_sh, hm, mjs_up_at, mjs_up_c, mjs_up_f]
    refine ⟨fun q => absurd q npr, fun _ => mj_blk rfl ?_⟩
    simp +decide only [mjs_0, mjs_1, mjs_2, mjs_3, mjs_ble, true_and, Bool.false_eq_true, if_false, if_true, Nat.reduceAdd, Nat.reduceSub, Nat.reduceLeDiff, false_implies, true_implies, not_false_eq_true, not_true_eq_false, and_true, mm_sh, hm, mjs_up_at, mjs_up_c, mjs_up_f]
    refine ⟨fun q => absurd q (nI_pos (by omega)), fun _ => mj_blk rfl ?_⟩
    simp +decide only [mjs_0, mjs_1, mjs_2, mjs_3, mjs_ble, true_and, Bool.false_eq_true, if_false, if_true, Nat.reduceAdd, Nat.reduceSub, Nat.reduceLeDiff, false_implies, true_implies, not_false_eq_true, not_true_eq_false, and_true, mm_sh, hm, mjs_up_at, mjs_up_c, mjs_up_f]
    refine a2 H Lg d nc ns J _ hJ (fun J' hJ' => ?_)
    simp +decide only [mjs_0, mjs_1, mjs_2, mjs_3, mjs_ble, true_and, Bool.false_eq_true, if_false, if_true, Nat.reduceAdd, Nat.reduceSub, Nat.reduceLeDiff, false_implies, true_implies, not_false_eq_true, not_true_eq_false, and_true, mm_sh, hm, mjs_up_at, mjs_up_c, mjs_up_f]
    refine ⟨fun q => absurd q (rd_nle hJ'), fun _ => mj_blk rfl ?_⟩
    simp +decide only [mjs_0, mjs_1, mjs_2, mjs_3, mjs_ble, true_and, Bool.false_eq_true, if_false, if_true, Nat.reduceAdd, Nat.reduceSub, Nat.reduceLeDiff, false_implies, true_implies, not_false_eq_true, not_true_eq_false, and_true, mm_sh, hm, mjs_up_at, mjs_up_c, mjs_up_f]
    exact hq J' hJ'
  | succ m ih =>
    intro w i P N L I h1 h2 h3 h4 hv h hA hF
    refine mj_blk rfl ?_
    simp +decide only [mjs_0, mjs_1, mjs_2, mjs_3, mjs_ble, true_and, Bool.false_eq_true, if_false, if_true, Nat.reduceAdd, Nat.reduceSub, Nat.reduceLeDiff, false_implies, true_implies, not_false_eq_true, not_true_eq_false, and_true]
    refine ⟨fun q => absurd q (nI_ge (a := i) (b := 1000000000) (by omega) (by decide)), fun _ => mj_blk rfl ?_⟩
    simp +decide only [mjs_0, mjs_1, mjs_2, mjs_3, mjs_ble, true_and, Bool.false_eq_true, if_false, if_true, Nat.reduceAdd, Nat.reduceSub, Nat.reduceLeDiff, false_implies, true_implies, not_false_eq_true, not_true_eq_false, and_true]
    refine ⟨fun q => absurd q (nI_nle (by omega) (by omega)), fun _ => mj_blk rfl ?_⟩
    simp +decide only [mjs_0, mjs_1, mjs_2, mjs_3, mjs_ble, true_and, Bool.false_eq_true, if_false, if_true, Nat.reduceAdd, Nat.reduceSub, Nat.reduceLeDiff, false_implies, true_implies, not_false_eq_true, not_true_eq_false, and_true, mc_sh, hr, mjs_up_at, mjs_up_c, mjs_up_f]
    refine p_85n (d := d + 1) hR hM' hv h h2 hr' (fun t P1 N1 L1 I1 a1 a2 a3 a4 a5 a6 a7 a8 => ?_) (fun g' I' a1 a2 => ?_)
    · have hge : ge P N L P1 N1 L1 := ⟨a3, by omega, a5.2, a6⟩
      have hgp := gp_le a1 a7
      -- the reference's round
      have rr0 : ∀ (H : Nat → Nat → Int32) (Lg : Nat → Nat → Int64) (d nc ns : Nat) (J : Nat → Nat → Int32) (Q : mj_Q), RR H (K, P, E, N, S, M, C, O, L) J → (∀ J1, RR H (K, P1, E, N1, S, M, C, O, L1) J1 → (8 ≤ gp S t ∧ gp S t ≤ 15 → mj_rn X (mj_hd []) (mj_call X mj_P (mj_bi X) (d + 6)) mb_153 86 [some (.ref 36), none, some (.int (nI pr)), none, some (.int (nI (w + 1))), none] [] (sh59, J1, Lg, Rf, nc, ns) Q) ∧ (gp S t = 18 → mj_rn X (mj_hd []) (mj_call X mj_P (mj_bi X) (d + 6)) mb_153 86 [some (.ref 36), none, some (.int (nI pr)), none, some (.int (nI w - 1)), none] [] (sh59, J1, Lg, Rf, nc, ns) Q) ∧ (¬ (8 ≤ gp S t ∧ gp S t ≤ 15) → gp S t ≠ 18 → mj_rn X (mj_hd []) (mj_call X mj_P (mj_bi X) (d + 6)) mb_153 86 [some (.ref 36), none, some (.int (nI pr)), none, some (.int (nI w)), none] [] (sh59, J1, Lg, Rf, nc, ns) Q)) →
          mj_rn X (mj_hd []) (mj_call X mj_P (mj_bi X) (d + 6)) mb_153 86 [some (.ref 36), none, some (.int (nI pr)), none, some (.int (nI w)), none] [] (sh59, J, Lg, Rf, nc, ns) Q := by
        intro H Lg d nc ns J Q hJ hq
        have K147 : ∀ (x : Int32) (J1 : Nat → Nat → Int32) (w4 w5 : Option Value), mj_rn X (mj_hd []) (mj_call X mj_P (mj_bi X) (d + 6)) mb_153 86 [some (.ref 36), none, some (.int (nI pr)), none, some (.int x), none] [] (sh59, J1, Lg, Rf, nc, ns) Q → mj_rn X (mj_hd []) (mj_call X mj_P (mj_bi X) (d + 6)) mb_153 147 [some (.ref 36), none, some (.int (nI pr)), none, w4, w5] [.int x] (sh59, J1, Lg, Rf, nc, ns) Q := by
          intro x J1 w4 w5 hh
          refine mj_blk rfl ?_
          simp +decide only [mjs_0, mjs_1, mjs_2, mjs_3, mjs_ble, true_and, Bool.false_eq_true, if_false, if_true, Nat.reduceAdd, Nat.reduceSub, Nat.reduceLeDiff, false_implies, true_implies, not_false_eq_true, not_true_eq_false, and_true]
          exact hh
        refine mj_blk rfl ?_
        simp +decide only [mjs_0, mjs_1, mjs_2, mjs_3, mjs_ble, true_and, Bool.false_eq_true, if_false, if_true, Nat.reduceAdd, Nat.reduceSub, Nat.reduceLeDiff, false_implies, true_implies, not_false_eq_true, not_true_eq_false, and_true, mm_sh, hm, mjs_up_at, mjs_up_c, mjs_up_f]
        refine ⟨fun q => absurd q npr, fun _ => mj_blk rfl ?_⟩
        simp +decide only [mjs_0, mjs_1, mjs_2, mjs_3, mjs_ble, true_and, Bool.false_eq_true, if_false, if_true, Nat.reduceAdd, Nat.reduceSub, Nat.reduceLeDiff, false_implies, true_implies, not_false_eq_true, not_true_eq_false, and_true, mm_sh, hm, mjs_up_at, mjs_up_c, mjs_up_f]
        refine ⟨fun q => absurd q (nI_pos (by omega)), fun _ => mj_blk rfl ?_⟩
        simp +decide only [mjs_0, mjs_1, mjs_2, mjs_3, mjs_ble, true_and, Bool.false_eq_true, if_false, if_true, Nat.reduceAdd, Nat.reduceSub, Nat.reduceLeDiff, false_implies, true_implies, not_false_eq_true, not_true_eq_false, and_true, mm_sh, hm, mjs_up_at, mjs_up_c, mjs_up_f]
        refine a8 H Lg d nc ns J _ hJ (fun J1 hJ1 => ?_)
        obtain ⟨q1, q2, q3⟩ := hq J1 hJ1
        simp +decide only [mjs_0, mjs_1, mjs_2, mjs_3, mjs_ble, true_and, Bool.false_eq_true, if_false, if_true, Nat.reduceAdd, Nat.reduceSub, Nat.reduceLeDiff, false_implies, true_implies, not_false_eq_true, not_true_eq_false, and_true, mm_sh, hm, mjs_up_at, mjs_up_c, mjs_up_f, (rr_d hJ1).1.2.2.2]
        refine mj_blk rfl ?_
        simp +decide only [mjs_0, mjs_1, mjs_2, mjs_3, mjs_ble, true_and, Bool.false_eq_true, if_false, if_true, Nat.reduceAdd, Nat.reduceSub, Nat.reduceLeDiff, false_implies, true_implies, not_false_eq_true, not_true_eq_false, and_true, mm_sh, hm, mjs_up_at, mjs_up_c, mjs_up_f]
        refine rq_151 (d := d + 2) hM' hJ1 a1 a7 (fun hh => ?_) (fun hh => ?_)
        · simp +decide only [mjs_0, mjs_1, mjs_2, mjs_3, mjs_ble, true_and, Bool.false_eq_true, if_false, if_true, Nat.reduceAdd, Nat.reduceSub, Nat.reduceLeDiff, false_implies, true_implies, not_false_eq_true, not_true_eq_false, and_true, mm_sh, hm, mjs_up_at, mjs_up_c, mjs_up_f]
          refine mj_blk rfl ?_
          simp +decide only [mjs_0, mjs_1, mjs_2, mjs_3, mjs_ble, true_and, Bool.false_eq_true, if_false, if_true, Nat.reduceAdd, Nat.reduceSub, Nat.reduceLeDiff, false_implies, true_implies, not_false_eq_true, not_true_eq_false, and_true, mm_sh, hm, mjs_up_at, mjs_up_c, mjs_up_f, nI_1]
          exact K147 _ _ _ _ (q1 hh)
        · simp +decide only [mjs_0, mjs_1, mjs_2, mjs_3, mjs_ble, true_and, Bool.false_eq_true, if_false, if_true, Nat.reduceAdd, Nat.reduceSub, Nat.reduceLeDiff, false_implies, true_implies, not_false_eq_true, not_true_eq_false, and_true, mm_sh, hm, mjs_up_at, mjs_up_c, mjs_up_f]
          refine mj_blk rfl ?_
          simp +decide only [mjs_0, mjs_1, mjs_2, mjs_3, mjs_ble, true_and, Bool.false_eq_true, if_false, if_true, Nat.reduceAdd, Nat.reduceSub, Nat.reduceLeDiff, false_implies, true_implies, not_false_eq_true, not_true_eq_false, and_true, mm_sh, hm, mjs_up_at, mjs_up_c, mjs_up_f]
          refine rq_126 (d := d + 2) (p := 18) (k := 17) hM' hJ1 a1 a7 (by decide) (by decide) (by decide) (fun h18 => ?_) (fun h18 => ?_)
          · simp +decide only [mjs_0, mjs_1, mjs_2, mjs_3, mjs_ble, true_and, Bool.false_eq_true, if_false, if_true, Nat.reduceAdd, Nat.reduceSub, Nat.reduceLeDiff, false_implies, true_implies, not_false_eq_true, not_true_eq_false, and_true, mm_sh, hm, mjs_up_at, mjs_up_c, mjs_up_f]
            refine mj_blk rfl ?_
            simp +decide only [mjs_0, mjs_1, mjs_2, mjs_3, mjs_ble, true_and, Bool.false_eq_true, if_false, if_true, Nat.reduceAdd, Nat.reduceSub, Nat.reduceLeDiff, false_implies, true_implies, not_false_eq_true, not_true_eq_false, and_true, mm_sh, hm, mjs_up_at, mjs_up_c, mjs_up_f]
            exact K147 _ _ _ _ (q2 h18)
          · simp +decide only [mjs_0, mjs_1, mjs_2, mjs_3, mjs_ble, true_and, Bool.false_eq_true, if_false, if_true, Nat.reduceAdd, Nat.reduceSub, Nat.reduceLeDiff, false_implies, true_implies, not_false_eq_true, not_true_eq_false, and_true, mm_sh, hm, mjs_up_at, mjs_up_c, mjs_up_f]
            refine mj_blk rfl ?_
            simp +decide only [mjs_0, mjs_1, mjs_2, mjs_3, mjs_ble, true_and, Bool.false_eq_true, if_false, if_true, Nat.reduceAdd, Nat.reduceSub, Nat.reduceLeDiff, false_implies, true_implies, not_false_eq_true, not_true_eq_false, and_true, mm_sh, hm, mjs_up_at, mjs_up_c, mjs_up_f]
            exact K147 _ _ _ _ (q3 hh h18)
      -- the class's next round with w'
      have nxt : ∀ (w' : Nat), w' ≤ i + 1 → (∀ (H : Nat → Nat → Int32) (Lg : Nat → Nat → Int64) (d nc ns : Nat) (J : Nat → Nat → Int32) (Q : mj_Q), RR H (K, P, E, N, S, M, C, O, L) J → (∀ J1, RR H (K, P1, E, N1, S, M, C, O, L1) J1 → mj_rn X (mj_hd []) (mj_call X mj_P (mj_bi X) (d + 6)) mb_153 86 [some (.ref 36), none, some (.int (nI pr)), none, some (.int (nI w')), none] [] (sh59, J1, Lg, Rf, nc, ns) Q) → mj_rn X (mj_hd []) (mj_call X mj_P (mj_bi X) (d + 6)) mb_153 86 [some (.ref 36), none, some (.int (nI pr)), none, some (.int (nI w)), none] [] (sh59, J, Lg, Rf, nc, ns) Q) → ∀ w7 : Option Value, mj_rn X (mj_hd []) (mj_call X mj_P (mj_bi X) (d + 3)) mb_20 179 [some (.ref 25), none, none, some (.int (nI c)), none, some (.int (nI (w' + 1))), some (.int (nI i)), w7] [] (sh59, I1, Lg, Rf, nc, ns) Q := by
        intro w' hw' hs w7
        refine mj_blk rfl ?_
        simp +decide only [mjs_0, mjs_1, mjs_2, mjs_3, mjs_ble, true_and, Bool.false_eq_true, if_false, if_true, Nat.reduceAdd, Nat.reduceSub, Nat.reduceLeDiff, false_implies, true_implies, not_false_eq_true, not_true_eq_false, and_true, nI_1]
        refine ih w' (i + 1) P1 N1 L1 I1 (by omega) (by omega) (by omega) (by omega) a1 a2 (fun P' N' L' I' b1 b2 b3 b4 => hA P' N' L' I' b1 b2 (ge_tr hge b3) ?_) (fun g' I' b1 b2 => hF g' I' b1 ?_)
        · intro H Lg d nc ns J Q hJ hq
          exact hs H Lg d nc ns J Q hJ (fun J1 hJ1 => b4 H Lg d nc ns J1 Q hJ1 hq)
        · intro H Lg d nc ns J Q hJ hq
          exact hs H Lg d nc ns J Q hJ (fun J1 hJ1 => b2 H Lg d nc ns J1 Q hJ1 hq)
      have K169 : ¬ (8 ≤ gp S t ∧ gp S t ≤ 15) → mj_rn X (mj_hd []) (mj_call X mj_P (mj_bi X) (d + 3)) mb_20 169 [some (.ref 25), none, none, some (.int (nI c)), none, some (.int (nI (w + 1))), some (.int (nI i)), some (.int (nI (gp S t)))] [] (sh59, I1, Lg, Rf, nc, ns) Q := by
        intro hn
        refine mj_blk rfl ?_
        simp +decide only [mjs_0, mjs_1, mjs_2, mjs_3, mjs_ble, true_and, Bool.false_eq_true, if_false, if_true, Nat.reduceAdd, Nat.reduceSub, Nat.reduceLeDiff, false_implies, true_implies, not_false_eq_true, not_true_eq_false, and_true]
        refine ⟨fun q => ?_, fun q => mj_blk rfl ?_⟩
        · have n18 : gp S t ≠ 18 := fun e => q (by rw [e]; rfl)
          exact nxt w (by omega) (fun H Lg d nc ns J Q hJ hq => rr0 H Lg d nc ns J Q hJ (fun J1 hJ1 => ⟨fun hh => absurd hh hn, fun hh => absurd hh n18, fun _ _ => hq J1 hJ1⟩)) _
        · have e18 : gp S t = 18 := (nI_eq (by omega) (by decide)).mp (show nI (gp S t) = nI 18 from Decidable.not_not.mp q)
          simp +decide only [mjs_0, mjs_1, mjs_2, mjs_3, mjs_ble, true_and, Bool.false_eq_true, if_false, if_true, Nat.reduceAdd, Nat.reduceSub, Nat.reduceLeDiff, false_implies, true_implies, not_false_eq_true, not_true_eq_false, and_true, pk_m1]
          cases w with
          | succ w =>
            refine nxt w (by omega) (fun H Lg d nc ns J Q hJ hq => rr0 H Lg d nc ns J Q hJ (fun J1 hJ1 => ⟨fun hh => absurd hh hn, fun _ => ?_, fun _ hh => absurd e18 hh⟩)) _
            rw [nI_pred]
            exact hq J1 hJ1
          | zero =>
            refine mj_blk rfl ?_
            simp +decide only [mjs_0, mjs_1, mjs_2, mjs_3, mjs_ble, true_and, Bool.false_eq_true, if_false, if_true, Nat.reduceAdd, Nat.reduceSub, Nat.reduceLeDiff, false_implies, true_implies, not_false_eq_true, not_true_eq_false, and_true, nI_1]
            refine mj_blk rfl ?_
            simp +decide only [mjs_0, mjs_1, mjs_2, mjs_3, mjs_ble, true_and, Bool.false_eq_true, if_false, if_true, Nat.reduceAdd, Nat.reduceSub, Nat.reduceLeDiff, false_implies, true_implies, not_false_eq_true, not_true_eq_false, and_true]
            refine ⟨fun q => absurd q (nI_ge (a := i + 1) (b := 1000000000) (by omega) (by decide)), fun _ => mj_blk rfl ?_⟩
            simp +decide only [mjs_0, mjs_1, mjs_2, mjs_3, mjs_ble, true_and, Bool.false_eq_true, if_false, if_true, Nat.reduceAdd, Nat.reduceSub, Nat.reduceLeDiff, false_implies, true_implies, not_false_eq_true, not_true_eq_false, and_true]
            refine mj_blk rfl ?_
            simp +decide only [mjs_0, mjs_1, mjs_2, mjs_3, mjs_ble, true_and, Bool.false_eq_true, if_false, if_true, Nat.reduceAdd, Nat.reduceSub, Nat.reduceLeDiff, false_implies, true_implies, not_false_eq_true, not_true_eq_false, and_true, mc_sh, hr, mjs_up_at, mjs_up_c, mjs_up_f]
            have gc : gvC (c, C.2) := ⟨by have := (gv_d hv).2.2.2.2.2.1.1; simp only; omega, fun j hj => (gv_d hv).2.2.2.2.2.1.2 j (by simp only at hj; omega)⟩
            refine hA P1 N1 L1 _ (gv_C a1 gc) (rc_Cn a2 (by omega)) hge ?_
            intro H Lg d nc ns J Q hJ hq
            refine rr0 H Lg d nc ns J Q hJ (fun J1 hJ1 => ⟨fun hh => absurd hh hn, fun _ => ?_, fun _ hh => absurd e18 hh⟩)
            have j33 : J1 36 33 = nI (c + 1) := by rw [(rr_d hJ1).2.2.2.2.2.2.1.1, hc]
            refine mj_blk rfl ?_
            simp +decide only [mjs_0, mjs_1, mjs_2, mjs_3, mjs_ble, true_and, Bool.false_eq_true, if_false, if_true, Nat.reduceAdd, Nat.reduceSub, Nat.reduceLeDiff, false_implies, true_implies, not_false_eq_true, not_true_eq_false, and_true, mm_sh, hm, mjs_up_at, mjs_up_c, mjs_up_f]
            refine ⟨fun q => absurd q npr, fun _ => mj_blk rfl ?_⟩
            simp +decide only [mjs_0, mjs_1, mjs_2, mjs_3, mjs_ble, true_and, Bool.false_eq_true, if_false, if_true, Nat.reduceAdd, Nat.reduceSub, Nat.reduceLeDiff, false_implies, true_implies, not_false_eq_true, not_true_eq_false, and_true, mm_sh, hm, mjs_up_at, mjs_up_c, mjs_up_f]
            refine mj_blk rfl ?_
            simp +decide only [mjs_0, mjs_1, mjs_2, mjs_3, mjs_ble, true_and, Bool.false_eq_true, if_false, if_true, Nat.reduceAdd, Nat.reduceSub, Nat.reduceLeDiff, false_implies, true_implies, not_false_eq_true, not_true_eq_false, and_true, mm_sh, hm, mjs_up_at, mjs_up_c, mjs_up_f, j33, nI_pred]
            exact hq _ (rr_Cn hJ1 (by omega))
      simp +decide only [mjs_0, mjs_1, mjs_2, mjs_3, mjs_ble, true_and, Bool.false_eq_true, if_false, if_true, Nat.reduceAdd, Nat.reduceSub, Nat.reduceLeDiff, false_implies, true_implies, not_false_eq_true, not_true_eq_false, and_true, mc_sh, hr, mjs_up_at, mjs_up_c, mjs_up_f]
      refine cq_97 hR a2 a1 a7 ?_
      simp +decide only [mjs_0, mjs_1, mjs_2, mjs_3, mjs_ble, true_and, Bool.false_eq_true, if_false, if_true, Nat.reduceAdd, Nat.reduceSub, Nat.reduceLeDiff, false_implies, true_implies, not_false_eq_true, not_true_eq_false, and_true]
      refine ⟨fun q => K169 (fun hh => ?_), fun q => mj_blk rfl ?_⟩
      · have := (nI_ltI (a := gp S t) (b := 8) (by omega) (by decide)).mp q
        omega
      · have h8 : 8 ≤ gp S t := by
          by_cases hh : gp S t < 8
          · exact absurd (show nI (gp S t) < nI 8 from nI_lt hh (by decide)) q
          · omega
        simp +decide only [mjs_0, mjs_1, mjs_2, mjs_3, mjs_ble, true_and, Bool.false_eq_true, if_false, if_true, Nat.reduceAdd, Nat.reduceSub, Nat.reduceLeDiff, false_implies, true_implies, not_false_eq_true, not_true_eq_false, and_true]
        refine ⟨fun q2 => K169 (fun hh => ?_), fun q2 => mj_blk rfl ?_⟩
        · have := (nI_ltI (a := 15) (b := gp S t) (by decide) (by omega)).mp q2
          omega
        · have h15 : gp S t ≤ 15 := by
            by_cases hh : 15 < gp S t
            · exact absurd (show nI 15 < nI (gp S t) from nI_lt hh (by omega)) q2
            · omega
          simp +decide only [mjs_0, mjs_1, mjs_2, mjs_3, mjs_ble, true_and, Bool.false_eq_true, if_false, if_true, Nat.reduceAdd, Nat.reduceSub, Nat.reduceLeDiff, false_implies, true_implies, not_false_eq_true, not_true_eq_false, and_true, nI_1]
          exact nxt (w + 1) (by omega) (fun H Lg d nc ns J Q hJ hq => rr0 H Lg d nc ns J Q hJ (fun J1 hJ1 => ⟨fun _ => hq J1 hJ1, fun hh => absurd hh (by omega), fun hh => absurd ⟨h8, h15⟩ hh⟩)) _
    · simp +decide only [mjs_0, mjs_1, mjs_2, mjs_3, mjs_ble, true_and, Bool.false_eq_true, if_false, if_true, Nat.reduceAdd, Nat.reduceSub, Nat.reduceLeDiff, false_implies, true_implies, not_false_eq_true, not_true_eq_false, and_true]
      refine hF g' I' a1 ?_
      intro H Lg d nc ns J Q hJ hq
      refine mj_blk rfl ?_
      simp +decide only [mjs_0, mjs_1, mjs_2, mjs_3, mjs_ble, true_and, Bool.false_eq_true, if_false, if_true, Nat.reduceAdd, Nat.reduceSub, Nat.reduceLeDiff, false_implies, true_implies, not_false_eq_true, not_true_eq_false, and_true, mm_sh, hm, mjs_up_at, mjs_up_c, mjs_up_f]
      refine ⟨fun q => absurd q npr, fun _ => mj_blk rfl ?_⟩
      simp +decide only [mjs_0, mjs_1, mjs_2, mjs_3, mjs_ble, true_and, Bool.false_eq_true, if_false, if_true, Nat.reduceAdd, Nat.reduceSub, Nat.reduceLeDiff, false_implies, true_implies, not_false_eq_true, not_true_eq_false, and_true, mm_sh, hm, mjs_up_at, mjs_up_c, mjs_up_f]
      refine ⟨fun q => absurd q (nI_pos (by omega)), fun _ => mj_blk rfl ?_⟩
      simp +decide only [mjs_0, mjs_1, mjs_2, mjs_3, mjs_ble, true_and, Bool.false_eq_true, if_false, if_true, Nat.reduceAdd, Nat.reduceSub, Nat.reduceLeDiff, false_implies, true_implies, not_false_eq_true, not_true_eq_false, and_true, mm_sh, hm, mjs_up_at, mjs_up_c, mjs_up_f]
      refine a2 H Lg d nc ns J _ hJ (fun J' hJ' => ?_)
      simp +decide only [mjs_0, mjs_1, mjs_2, mjs_3, mjs_ble, true_and, Bool.false_eq_true, if_false, if_true, Nat.reduceAdd, Nat.reduceSub, Nat.reduceLeDiff, false_implies, true_implies, not_false_eq_true, not_true_eq_false, and_true, mm_sh, hm, mjs_up_at, mjs_up_c, mjs_up_f]
      refine ⟨fun q => absurd q (rd_nle hJ'), fun _ => mj_blk rfl ?_⟩
      simp +decide only [mjs_0, mjs_1, mjs_2, mjs_3, mjs_ble, true_and, Bool.false_eq_true, if_false, if_true, Nat.reduceAdd, Nat.reduceSub, Nat.reduceLeDiff, false_implies, true_implies, not_false_eq_true, not_true_eq_false, and_true, mm_sh, hm, mjs_up_at, mjs_up_c, mjs_up_f]
      exact hq J' hJ'
/-- behind else, or or fi: all up to the fi that ends it is dropped -/
theorem p_20 (hR : mj_Rt mp_R Rf) (hM' : mj_Rt mm_R Rf) (hv : gv (K, P, E, N, S, M, C, O, L)) (h : RC fb vb (K, P, E, N, S, M, C, O, L) I) (hp : P.length ≤ 9999) (hr' : nc + 1 ≤ X.2.2.1 ∧ ns + 6 ≤ X.2.2.2) {p : Nat} (hpc : p = 16 ∨ p = 17 ∨ p = 18) (ht : tv N.2.2 t)
    (hQ1 : ∀ P' N' C' L' I', gv (K, P', E, N', S, M, C', O, L') → RC fb vb (K, P', E, N', S, M, C', O, L') I' → nx N N' → tl L' ≤ tl L → P'.length ≤ P.length + 2 → (C' = C ∨ (1 ≤ C.1 ∧ C.2.1 (C.1 - 1) ≠ 0 ∧ C' = (C.1 - 1, C.2))) → RS X Rf 7 153 [.ref 36, .int (nI (rt t)), .int (nI (p - 1))] (K, P, E, N, S, M, C, O, L) none (K, P', E, N', S, M, C', O, L') → Q (.inl none) (sh59, I', Lg, Rf, nc, ns))
    (hQ3 : ∀ g' I', RCf fb vb g' I' → RF X Rf 7 153 [.ref 36, .int (nI (rt t)), .int (nI (p - 1))] (K, P, E, N, S, M, C, O, L) none g' → Q (.inr 500) (sh59, I', Lg, Rf, nc + 1, ns + 6)) :
    mj_call X mj_P (mj_bi X) (d + 4) 20 [.ref 25, .int (nI p), .int (nI t)] (sh59, I, Lg, Rf, nc, ns) Q := by
  have hr := mc_rf hR
  have hm := mm_rf hM'
  have hk1 : 36 ≤ N.2.2 := (gv_d hv).2.2.1.1
  have hk : N.2.2 ≤ 1036 := (gv_d hv).2.2.1.2.1
  obtain ⟨hK, hP, hE, hN, hS, hM, hC, hO, hL, hZ⟩ := rc_d h
  have hc100 : C.1 ≤ 100 := (gv_d hv).2.2.2.2.2.1.1
  have rtl := rt_lt hk hk1 ht
  refine mj_enter (z := (8, [], mb_20)) (by decide) rfl rfl ?_
  refine mj_blk rfl ?_
  simp +decide only [mjs_0, mjs_1, mjs_2, mjs_3, mjs_ble, true_and, Bool.false_eq_true, if_false, if_true, Nat.reduceAdd, Nat.reduceSub, Nat.reduceLeDiff, false_implies, true_implies, not_false_eq_true, not_true_eq_false, and_true, mc_sh, hr, mjs_up_at, mjs_up_c, mjs_up_f, hC.1]
  by_cases hc0 : C.1 = 0
  · rw [hc0]
    refine ⟨fun q => absurd rfl q, fun _ => mj_blk rfl ?_⟩
    simp +decide only [mjs_0, mjs_1, mjs_2, mjs_3, mjs_ble, true_and, Bool.false_eq_true, if_false, if_true, Nat.reduceAdd, Nat.reduceSub, Nat.reduceLeDiff, false_implies, true_implies, not_false_eq_true, not_true_eq_false, and_true, mc_sh, hr, mjs_up_at, mjs_up_c, mjs_up_f]
    refine c_80 s59_1 hr' ?_
    simp +decide only [mjs_0, mjs_1, mjs_2, mjs_3, mjs_ble, true_and, Bool.false_eq_true, if_false, if_true, Nat.reduceAdd, Nat.reduceSub, Nat.reduceLeDiff, false_implies, true_implies, not_false_eq_true, not_true_eq_false, and_true]
    refine hQ3 _ _ (rc_f hv h) ?_
    intro H Lg d nc ns J Q hJ hq
    have j33 : J 36 33 = 0 := by rw [(rr_d hJ).2.2.2.2.2.2.1.1, hc0]; rfl
    refine mj_enter (z := (6, [], mb_153)) (by decide) rfl rfl ?_
    refine mj_blk rfl ?_
    simp +decide only [mjs_0, mjs_1, mjs_2, mjs_3, mjs_ble, true_and, Bool.false_eq_true, if_false, if_true, Nat.reduceAdd, Nat.reduceSub, Nat.reduceLeDiff, false_implies, true_implies, not_false_eq_true, not_true_eq_false, and_true, mm_sh, hm, mjs_up_at, mjs_up_c, mjs_up_f, j33]
    refine mj_blk rfl ?_
    simp +decide only [mjs_0, mjs_1, mjs_2, mjs_3, mjs_ble, true_and, Bool.false_eq_true, if_false, if_true, Nat.reduceAdd, Nat.reduceSub, Nat.reduceLeDiff, false_implies, true_implies, not_false_eq_true, not_true_eq_false, and_true, mm_sh, hm, mjs_up_at, mjs_up_c, mjs_up_f, j33]
    refine mj_blk rfl ?_
    simp +decide only [mjs_0, mjs_1, mjs_2, mjs_3, mjs_ble, true_and, Bool.false_eq_true, if_false, if_true, Nat.reduceAdd, Nat.reduceSub, Nat.reduceLeDiff, false_implies, true_implies, not_false_eq_true, not_true_eq_false, and_true, mm_sh, hm, mjs_up_at, mjs_up_c, mjs_up_f]
    refine c_106 s59_36 ?_
    rw [if_pos (rr_d hJ).1.2.2.2]
    simp +decide only [mjs_0, mjs_1, mjs_2, mjs_3, mjs_ble, true_and, Bool.false_eq_true, if_false, if_true, Nat.reduceAdd, Nat.reduceSub, Nat.reduceLeDiff, false_implies, true_implies, not_false_eq_true, not_true_eq_false, and_true, mm_sh, hm, mjs_up_at, mjs_up_c, mjs_up_f]
    exact hq _ (rr_f (f := 8) (by decide) (by decide) hJ)
  · obtain ⟨c, hc⟩ : ∃ c, C.1 = c + 1 := ⟨C.1 - 1, by omega⟩
    have ec : (nI c).toNatClampNeg = c := nI_clamp (by omega)
    have hcs : I 26 c = nI (C.2.1 c) := (hC.2 c (by omega)).1
    have hch : I 27 c = nI (C.2.2 c) := (hC.2 c (by omega)).2
    have hs2 : C.2.1 c ≤ 2 ∧ C.2.2 c ≤ 1 := (gv_d hv).2.2.2.2.2.1.2 c (by omega)
    have h25 : I 25 2 = nI (c + 1) := by rw [hC.1, hc]
    rw [hc]
    refine ⟨fun _ => mj_blk rfl ?_, fun q => absurd (nI_ne0 (by omega) (by omega)) q⟩
    simp +decide only [mjs_0, mjs_1, mjs_2, mjs_3, mjs_ble, true_and, Bool.false_eq_true, if_false, if_true, Nat.reduceAdd, Nat.reduceSub, Nat.reduceLeDiff, false_implies, true_implies, not_false_eq_true, not_true_eq_false, and_true, mc_sh, hr, mjs_up_at, mjs_up_c, mjs_up_f, h25, nI_pred, ec, hcs]
    -- the reference's head
    have rf0 : ∀ (H : Nat → Nat → Int32) (Lg : Nat → Nat → Int64) (d nc ns : Nat) (J : Nat → Nat → Int32) (Q : mj_Q), RR H (K, P, E, N, S, M, C, O, L) J → C.2.1 c ≠ 0 → mj_rn X (mj_hd []) (mj_call X mj_P (mj_bi X) (d + 6)) mb_153 34 [some (.ref 36), some (.int (nI (rt t))), some (.int (nI (p - 1))), none, none, none] [] (sh59, J, Lg, Rf, nc, ns) Q → mj_call X mj_P (mj_bi X) (d + 7) 153 [.ref 36, .int (nI (rt t)), .int (nI (p - 1))] (sh59, J, Lg, Rf, nc, ns) Q := by
      intro H Lg d nc ns J Q hJ hs0 hq
      obtain ⟨c1, c2⟩ := (rr_d hJ).2.2.2.2.2.2.1
      have j33 : J 36 33 = nI (c + 1) := by rw [c1, hc]
      have j57 : J 57 c = nI (C.2.1 c) := (c2 c (by omega)).1
      refine mj_enter (z := (6, [], mb_153)) (by decide) rfl rfl ?_
      refine mj_blk rfl ?_
      simp +decide only [mjs_0, mjs_1, mjs_2, mjs_3, mjs_ble, true_and, Bool.false_eq_true, if_false, if_true, Nat.reduceAdd, Nat.reduceSub, Nat.reduceLeDiff, false_implies, true_implies, not_false_eq_true, not_true_eq_false, and_true, mm_sh, hm, mjs_up_at, mjs_up_c, mjs_up_f, j33]
      refine ⟨fun q => absurd q (nI_nle (by omega) (by omega)), fun _ => mj_blk rfl ?_⟩
      simp +decide only [mjs_0, mjs_1, mjs_2, mjs_3, mjs_ble, true_and, Bool.false_eq_true, if_false, if_true, Nat.reduceAdd, Nat.reduceSub, Nat.reduceLeDiff, false_implies, true_implies, not_false_eq_true, not_true_eq_false, and_true, mm_sh, hm, mjs_up_at, mjs_up_c, mjs_up_f, j33, nI_pred, ec, j57]
      exact ⟨nI_in (by omega) (by decide), fun _ => hq, fun q => absurd (nI_ne0 (by omega) (by omega)) q⟩
    refine ⟨nI_in (by omega) (by decide), fun q0 => mj_blk rfl ?_, fun q0 => mj_blk rfl ?_⟩
    · have s0 : C.2.1 c ≠ 0 := fun e => q0 (by rw [e]; rfl)
      have gc : gvC (c, C.2) := ⟨by simp only; omega, fun j hj => (gv_d hv).2.2.2.2.2.1.2 j (by simp only at hj; omega)⟩
      have rrF : ∀ (H : Nat → Nat → Int32) (Lg : Nat → Nat → Int64) (d nc ns : Nat) (J : Nat → Nat → Int32) (Q : mj_Q) (w1 w2 w3 w4 w5 : Option Value), RR H (K, P, E, N, S, M, C, O, L) J → (∀ J', RD H (K, P, E, N, S, M, C, O, L) J' → Q (.inl none) (sh59, J', Lg, Rf, nc, ns)) → mj_rn X (mj_hd []) (mj_call X mj_P (mj_bi X) (d + 6)) mb_153 76 [some (.ref 36), w1, w2, w3, w4, w5] [] (sh59, J, Lg, Rf, nc, ns) Q := by
        intro H Lg d nc ns J Q w1 w2 w3 w4 w5 hJ hq
        refine mj_blk rfl ?_
        simp +decide only [mjs_0, mjs_1, mjs_2, mjs_3, mjs_ble, true_and, Bool.false_eq_true, if_false, if_true, Nat.reduceAdd, Nat.reduceSub, Nat.reduceLeDiff, false_implies, true_implies, not_false_eq_true, not_true_eq_false, and_true, mm_sh, hm, mjs_up_at, mjs_up_c, mjs_up_f]
        refine c_106 s59_36 ?_
        rw [if_pos (rr_d hJ).1.2.2.2]
        simp +decide only [mjs_0, mjs_1, mjs_2, mjs_3, mjs_ble, true_and, Bool.false_eq_true, if_false, if_true, Nat.reduceAdd, Nat.reduceSub, Nat.reduceLeDiff, false_implies, true_implies, not_false_eq_true, not_true_eq_false, and_true, mm_sh, hm, mjs_up_at, mjs_up_c, mjs_up_f]
        exact hq _ (rr_f (f := 8) (by decide) (by decide) hJ)
      have F94 : ∀ w2 w4 : Option Value, (RF X Rf 7 153 [.ref 36, .int (nI (rt t)), .int (nI (p - 1))] (K, P, E, N, S, M, C, O, L) none (K, P, E, N, S, M, C, O, L)) → mj_rn X (mj_hd []) (mj_call X mj_P (mj_bi X) (d + 3)) mb_20 94 [some (.ref 25), some (.int (nI p)), w2, some (.int (nI c)), w4, none, none, none] [] (sh59, I, Lg, Rf, nc, ns) Q := by
        intro w2 w4 hf
        refine mj_blk rfl ?_
        simp +decide only [mjs_0, mjs_1, mjs_2, mjs_3, mjs_ble, true_and, Bool.false_eq_true, if_false, if_true, Nat.reduceAdd, Nat.reduceSub, Nat.reduceLeDiff, false_implies, true_implies, not_false_eq_true, not_true_eq_false, and_true, mc_sh, hr, mjs_up_at, mjs_up_c, mjs_up_f]
        refine c_80 s59_1 hr' ?_
        simp +decide only [mjs_0, mjs_1, mjs_2, mjs_3, mjs_ble, true_and, Bool.false_eq_true, if_false, if_true, Nat.reduceAdd, Nat.reduceSub, Nat.reduceLeDiff, false_implies, true_implies, not_false_eq_true, not_true_eq_false, and_true]
        exact hQ3 _ _ (rc_f hv h) hf
      have L0 := p_20l (X := X) (d := d) (nc := nc) (ns := ns) (Q := Q) (Lg := Lg) (fb := fb) (vb := vb) (K := K) (E := E) (S := S) (M := M) (O := O) hR hM' hr' (pr := p - 1) (c := c) (C := C)
      rcases hpc with rfl | rfl | rfl
      · -- else
        simp +decide only [mjs_0, mjs_1, mjs_2, mjs_3, mjs_ble, true_and, Bool.false_eq_true, if_false, if_true, Nat.reduceAdd, Nat.reduceSub, Nat.reduceLeDiff, false_implies, true_implies, not_false_eq_true, not_true_eq_false, and_true, mc_sh, hr, mjs_up_at, mjs_up_c, mjs_up_f]
        refine mj_blk rfl ?_
        simp +decide only [mjs_0, mjs_1, mjs_2, mjs_3, mjs_ble, true_and, Bool.false_eq_true, if_false, if_true, Nat.reduceAdd, Nat.reduceSub, Nat.reduceLeDiff, false_implies, true_implies, not_false_eq_true, not_true_eq_false, and_true, mc_sh, hr, mjs_up_at, mjs_up_c, mjs_up_f, ec, hcs]
        refine ⟨nI_in (by omega) (by decide), fun q2 => mj_blk rfl ?_, fun q2 => mj_blk rfl ?_⟩
        · have n2 : C.2.1 c ≠ 2 := fun e => q2 (by rw [e]; rfl)
          simp +decide only [mjs_0, mjs_1, mjs_2, mjs_3, mjs_ble, true_and, Bool.false_eq_true, if_false, if_true, Nat.reduceAdd, Nat.reduceSub, Nat.reduceLeDiff, false_implies, true_implies, not_false_eq_true, not_true_eq_false, and_true]
          refine mj_blk rfl ?_
          simp +decide only [mjs_0, mjs_1, mjs_2, mjs_3, mjs_ble, true_and, Bool.false_eq_true, if_false, if_true, Nat.reduceAdd, Nat.reduceSub, Nat.reduceLeDiff, false_implies, true_implies, not_false_eq_true, not_true_eq_false, and_true]
          refine mj_blk rfl ?_
          simp +decide only [mjs_0, mjs_1, mjs_2, mjs_3, mjs_ble, true_and, Bool.false_eq_true, if_false, if_true, Nat.reduceAdd, Nat.reduceSub, Nat.reduceLeDiff, false_implies, true_implies, not_false_eq_true, not_true_eq_false, and_true]
          refine mj_blk rfl ?_
          simp +decide only [mjs_0, mjs_1, mjs_2, mjs_3, mjs_ble, true_and, Bool.false_eq_true, if_false, if_true, Nat.reduceAdd, Nat.reduceSub, Nat.reduceLeDiff, false_implies, true_implies, not_false_eq_true, not_true_eq_false, and_true]
          refine mj_blk rfl ?_
          simp +decide only [mjs_0, mjs_1, mjs_2, mjs_3, mjs_ble, true_and, Bool.false_eq_true, if_false, if_true, Nat.reduceAdd, Nat.reduceSub, Nat.reduceLeDiff, false_implies, true_implies, not_false_eq_true, not_true_eq_false, and_true]
          refine mj_blk rfl ?_
          simp +decide only [mjs_0, mjs_1, mjs_2, mjs_3, mjs_ble, true_and, Bool.false_eq_true, if_false, if_true, Nat.reduceAdd, Nat.reduceSub, Nat.reduceLeDiff, false_implies, true_implies, not_false_eq_true, not_true_eq_false, and_true]
          have rh : ∀ (H : Nat → Nat → Int32) (Lg : Nat → Nat → Int64) (d nc ns : Nat) (J : Nat → Nat → Int32) (Q : mj_Q), RR H (K, P, E, N, S, M, C, O, L) J → mj_rn X (mj_hd []) (mj_call X mj_P (mj_bi X) (d + 6)) mb_153 86 [some (.ref 36), none, some (.int (nI 15)), none, some (.int (nI 0)), none] [] (sh59, J, Lg, Rf, nc, ns) Q → mj_call X mj_P (mj_bi X) (d + 7) 153 [.ref 36, .int (nI (rt t)), .int (nI 15)] (sh59, J, Lg, Rf, nc, ns) Q := by
            intro H Lg d nc ns J Q hJ hq
            refine rf0 H Lg d nc ns J Q hJ s0 ?_
            obtain ⟨c1, c2⟩ := (rr_d hJ).2.2.2.2.2.2.1
            have j33 : J 36 33 = nI (c + 1) := by rw [c1, hc]
            have j57 : J 57 c = nI (C.2.1 c) := (c2 c (by omega)).1
            refine mj_blk rfl ?_
            simp +decide only [mjs_0, mjs_1, mjs_2, mjs_3, mjs_ble, true_and, Bool.false_eq_true, if_false, if_true, Nat.reduceAdd, Nat.reduceSub, Nat.reduceLeDiff, false_implies, true_implies, not_false_eq_true, not_true_eq_false, and_true, mm_sh, hm, mjs_up_at, mjs_up_c, mjs_up_f, j33, nI_pred]
            refine ⟨fun q => absurd q (nI_pos (by omega)), fun _ => mj_blk rfl ?_⟩
            simp +decide only [mjs_0, mjs_1, mjs_2, mjs_3, mjs_ble, true_and, Bool.false_eq_true, if_false, if_true, Nat.reduceAdd, Nat.reduceSub, Nat.reduceLeDiff, false_implies, true_implies, not_false_eq_true, not_true_eq_false, and_true, mm_sh, hm, mjs_up_at, mjs_up_c, mjs_up_f]
            refine mj_blk rfl ?_
            simp +decide only [mjs_0, mjs_1, mjs_2, mjs_3, mjs_ble, true_and, Bool.false_eq_true, if_false, if_true, Nat.reduceAdd, Nat.reduceSub, Nat.reduceLeDiff, false_implies, true_implies, not_false_eq_true, not_true_eq_false, and_true, mm_sh, hm, mjs_up_at, mjs_up_c, mjs_up_f, ec, j57]
            refine ⟨nI_in (by omega) (by decide), fun q => absurd q q2, fun _ => mj_blk rfl ?_⟩
            simp +decide only [mjs_0, mjs_1, mjs_2, mjs_3, mjs_ble, true_and, Bool.false_eq_true, if_false, if_true, Nat.reduceAdd, Nat.reduceSub, Nat.reduceLeDiff, false_implies, true_implies, not_false_eq_true, not_true_eq_false, and_true, mm_sh, hm, mjs_up_at, mjs_up_c, mjs_up_f]
            refine mj_blk rfl ?_
            simp +decide only [mjs_0, mjs_1, mjs_2, mjs_3, mjs_ble, true_and, Bool.false_eq_true, if_false, if_true, Nat.reduceAdd, Nat.reduceSub, Nat.reduceLeDiff, false_implies, true_implies, not_false_eq_true, not_true_eq_false, and_true, mm_sh, hm, mjs_up_at, mjs_up_c, mjs_up_f]
            exact hq
          refine L0 (Or.inl rfl) hc (P.length + tl L) 0 0 P N L I (Nat.le_refl _) (by omega) (by have := tl_le (gv_d hv).2.2.2.2.2.2.2; omega) (Nat.le_refl _) hv h (fun P' N' L' I' b1 b2 b3 b4 => hQ1 P' N' (c, C.2) L' I' b1 b2 b3.1 b3.2.2.2 (by have := b3.2.2.1; omega) (Or.inr ⟨by omega, by rw [hc]; exact s0, by rw [hc]; rfl⟩) ?_) (fun g' I' b1 b2 => hQ3 g' I' b1 ?_)
          · intro H Lg d nc ns J Q hJ hq
            exact rh H Lg d nc ns J Q hJ (b4 H Lg d nc ns J Q hJ hq)
          · intro H Lg d nc ns J Q hJ hq
            exact rh H Lg d nc ns J Q hJ (b2 H Lg d nc ns J Q hJ hq)
        · simp +decide only [mjs_0, mjs_1, mjs_2, mjs_3, mjs_ble, true_and, Bool.false_eq_true, if_false, if_true, Nat.reduceAdd, Nat.reduceSub, Nat.reduceLeDiff, false_implies, true_implies, not_false_eq_true, not_true_eq_false, and_true]
          refine mj_blk rfl ?_
          simp +decide only [mjs_0, mjs_1, mjs_2, mjs_3, mjs_ble, true_and, Bool.false_eq_true, if_false, if_true, Nat.reduceAdd, Nat.reduceSub, Nat.reduceLeDiff, false_implies, true_implies, not_false_eq_true, not_true_eq_false, and_true]
          refine F94 _ _ ?_
          intro H Lg d nc ns J Q hJ hq
          refine rf0 H Lg d nc ns J Q hJ s0 ?_
          obtain ⟨c1, c2⟩ := (rr_d hJ).2.2.2.2.2.2.1
          have j33 : J 36 33 = nI (c + 1) := by rw [c1, hc]
          have j57 : J 57 c = nI (C.2.1 c) := (c2 c (by omega)).1
          refine mj_blk rfl ?_
          simp +decide only [mjs_0, mjs_1, mjs_2, mjs_3, mjs_ble, true_and, Bool.false_eq_true, if_false, if_true, Nat.reduceAdd, Nat.reduceSub, Nat.reduceLeDiff, false_implies, true_implies, not_false_eq_true, not_true_eq_false, and_true, mm_sh, hm, mjs_up_at, mjs_up_c, mjs_up_f, j33, nI_pred]
          refine ⟨fun q => absurd q (nI_pos (by omega)), fun _ => mj_blk rfl ?_⟩
          simp +decide only [mjs_0, mjs_1, mjs_2, mjs_3, mjs_ble, true_and, Bool.false_eq_true, if_false, if_true, Nat.reduceAdd, Nat.reduceSub, Nat.reduceLeDiff, false_implies, true_implies, not_false_eq_true, not_true_eq_false, and_true, mm_sh, hm, mjs_up_at, mjs_up_c, mjs_up_f]
          refine mj_blk rfl ?_
          simp +decide only [mjs_0, mjs_1, mjs_2, mjs_3, mjs_ble, true_and, Bool.false_eq_true, if_false, if_true, Nat.reduceAdd, Nat.reduceSub, Nat.reduceLeDiff, false_implies, true_implies, not_false_eq_true, not_true_eq_false, and_true, mm_sh, hm, mjs_up_at, mjs_up_c, mjs_up_f, ec, j57]
          exact ⟨nI_in (by omega) (by decide), fun _ => rrF H Lg d nc ns J Q _ _ _ _ _ hJ hq, fun q => absurd (Decidable.not_not.mp q2) q⟩
      · -- or
        simp +decide only [mjs_0, mjs_1, mjs_2, mjs_3, mjs_ble, true_and, Bool.false_eq_true, if_false, if_true, Nat.reduceAdd, Nat.reduceSub, Nat.reduceLeDiff, false_implies, true_implies, not_false_eq_true, not_true_eq_false, and_true, mc_sh, hr, mjs_up_at, mjs_up_c, mjs_up_f]
        refine mj_blk rfl ?_
        simp +decide only [mjs_0, mjs_1, mjs_2, mjs_3, mjs_ble, true_and, Bool.false_eq_true, if_false, if_true, Nat.reduceAdd, Nat.reduceSub, Nat.reduceLeDiff, false_implies, true_implies, not_false_eq_true, not_true_eq_false, and_true, mc_sh, hr, mjs_up_at, mjs_up_c, mjs_up_f, ec, hcs]
        refine ⟨nI_in (by omega) (by decide), fun q2 => mj_blk rfl ?_, fun q2 => mj_blk rfl ?_⟩
        · have n2 : C.2.1 c ≠ 2 := fun e => q2 (by rw [e]; rfl)
          have rh : ∀ (H : Nat → Nat → Int32) (Lg : Nat → Nat → Int64) (d nc ns : Nat) (J : Nat → Nat → Int32) (Q : mj_Q), RR H (K, P, E, N, S, M, C, O, L) J → (C.2.2 c ≠ 0 → mj_rn X (mj_hd []) (mj_call X mj_P (mj_bi X) (d + 6)) mb_153 86 [some (.ref 36), none, some (.int (nI 16)), none, some (.int (nI 0)), none] [] (sh59, J, Lg, Rf, nc, ns) Q) → (C.2.2 c = 0 → ∀ J', RD H (K, P, E, N, S, M, C, O, L) J' → Q (.inl none) (sh59, J', Lg, Rf, nc, ns)) → mj_call X mj_P (mj_bi X) (d + 7) 153 [.ref 36, .int (nI (rt t)), .int (nI 16)] (sh59, J, Lg, Rf, nc, ns) Q := by
            intro H Lg d nc ns J Q hJ hq hq2
            refine rf0 H Lg d nc ns J Q hJ s0 ?_
            obtain ⟨c1, c2⟩ := (rr_d hJ).2.2.2.2.2.2.1
            have j33 : J 36 33 = nI (c + 1) := by rw [c1, hc]
            have j57 : J 57 c = nI (C.2.1 c) := (c2 c (by omega)).1
            have j56 : J 56 c = nI (C.2.2 c) := (c2 c (by omega)).2
            refine mj_blk rfl ?_
            simp +decide only [mjs_0, mjs_1, mjs_2, mjs_3, mjs_ble, true_and, Bool.false_eq_true, if_false, if_true, Nat.reduceAdd, Nat.reduceSub, Nat.reduceLeDiff, false_implies, true_implies, not_false_eq_true, not_true_eq_false, and_true, mm_sh, hm, mjs_up_at, mjs_up_c, mjs_up_f, j33, nI_pred]
            refine ⟨fun q => absurd q (nI_pos (by omega)), fun _ => mj_blk rfl ?_⟩
            simp +decide only [mjs_0, mjs_1, mjs_2, mjs_3, mjs_ble, true_and, Bool.false_eq_true, if_false, if_true, Nat.reduceAdd, Nat.reduceSub, Nat.reduceLeDiff, false_implies, true_implies, not_false_eq_true, not_true_eq_false, and_true, mm_sh, hm, mjs_up_at, mjs_up_c, mjs_up_f]
            refine mj_blk rfl ?_
            simp +decide only [mjs_0, mjs_1, mjs_2, mjs_3, mjs_ble, true_and, Bool.false_eq_true, if_false, if_true, Nat.reduceAdd, Nat.reduceSub, Nat.reduceLeDiff, false_implies, true_implies, not_false_eq_true, not_true_eq_false, and_true, mm_sh, hm, mjs_up_at, mjs_up_c, mjs_up_f, ec, j57]
            refine ⟨nI_in (by omega) (by decide), fun q => absurd q q2, fun _ => mj_blk rfl ?_⟩
            simp +decide only [mjs_0, mjs_1, mjs_2, mjs_3, mjs_ble, true_and, Bool.false_eq_true, if_false, if_true, Nat.reduceAdd, Nat.reduceSub, Nat.reduceLeDiff, false_implies, true_implies, not_false_eq_true, not_true_eq_false, and_true, mm_sh, hm, mjs_up_at, mjs_up_c, mjs_up_f]
            refine mj_blk rfl ?_
            simp +decide only [mjs_0, mjs_1, mjs_2, mjs_3, mjs_ble, true_and, Bool.false_eq_true, if_false, if_true, Nat.reduceAdd, Nat.reduceSub, Nat.reduceLeDiff, false_implies, true_implies, not_false_eq_true, not_true_eq_false, and_true, mm_sh, hm, mjs_up_at, mjs_up_c, mjs_up_f, ec, j56]
            refine ⟨nI_in (by omega) (by decide), fun q => mj_blk rfl ?_, fun q => rrF H Lg d nc ns J Q _ _ _ _ _ hJ (hq2 (tk_0 (by omega) (Decidable.not_not.mp q)))⟩
            simp +decide only [mjs_0, mjs_1, mjs_2, mjs_3, mjs_ble, true_and, Bool.false_eq_true, if_false, if_true, Nat.reduceAdd, Nat.reduceSub, Nat.reduceLeDiff, false_implies, true_implies, not_false_eq_true, not_true_eq_false, and_true, mm_sh, hm, mjs_up_at, mjs_up_c, mjs_up_f]
            exact hq (fun e => q (by rw [e]; rfl))
          simp +decide only [mjs_0, mjs_1, mjs_2, mjs_3, mjs_ble, true_and, Bool.false_eq_true, if_false, if_true, Nat.reduceAdd, Nat.reduceSub, Nat.reduceLeDiff, false_implies, true_implies, not_false_eq_true, not_true_eq_false, and_true]
          refine mj_blk rfl ?_
          simp +decide only [mjs_0, mjs_1, mjs_2, mjs_3, mjs_ble, true_and, Bool.false_eq_true, if_false, if_true, Nat.reduceAdd, Nat.reduceSub, Nat.reduceLeDiff, false_implies, true_implies, not_false_eq_true, not_true_eq_false, and_true]
          refine mj_blk rfl ?_
          simp +decide only [mjs_0, mjs_1, mjs_2, mjs_3, mjs_ble, true_and, Bool.false_eq_true, if_false, if_true, Nat.reduceAdd, Nat.reduceSub, Nat.reduceLeDiff, false_implies, true_implies, not_false_eq_true, not_true_eq_false, and_true]
          refine mj_blk rfl ?_
          simp +decide only [mjs_0, mjs_1, mjs_2, mjs_3, mjs_ble, true_and, Bool.false_eq_true, if_false, if_true, Nat.reduceAdd, Nat.reduceSub, Nat.reduceLeDiff, false_implies, true_implies, not_false_eq_true, not_true_eq_false, and_true, mc_sh, hr, mjs_up_at, mjs_up_c, mjs_up_f, ec, hch]
          refine ⟨nI_in (by omega) (by decide), fun q3 => mj_blk rfl ?_, fun q3 => ?_⟩
          · have n0 : C.2.2 c ≠ 0 := fun e => q3 (by rw [e]; rfl)
            simp +decide only [mjs_0, mjs_1, mjs_2, mjs_3, mjs_ble, true_and, Bool.false_eq_true, if_false, if_true, Nat.reduceAdd, Nat.reduceSub, Nat.reduceLeDiff, false_implies, true_implies, not_false_eq_true, not_true_eq_false, and_true]
            refine mj_blk rfl ?_
            simp +decide only [mjs_0, mjs_1, mjs_2, mjs_3, mjs_ble, true_and, Bool.false_eq_true, if_false, if_true, Nat.reduceAdd, Nat.reduceSub, Nat.reduceLeDiff, false_implies, true_implies, not_false_eq_true, not_true_eq_false, and_true]
            refine mj_blk rfl ?_
            simp +decide only [mjs_0, mjs_1, mjs_2, mjs_3, mjs_ble, true_and, Bool.false_eq_true, if_false, if_true, Nat.reduceAdd, Nat.reduceSub, Nat.reduceLeDiff, false_implies, true_implies, not_false_eq_true, not_true_eq_false, and_true]
            refine L0 (Or.inr rfl) hc (P.length + tl L) 0 0 P N L I (Nat.le_refl _) (by omega) (by have := tl_le (gv_d hv).2.2.2.2.2.2.2; omega) (Nat.le_refl _) hv h (fun P' N' L' I' b1 b2 b3 b4 => hQ1 P' N' (c, C.2) L' I' b1 b2 b3.1 b3.2.2.2 (by have := b3.2.2.1; omega) (Or.inr ⟨by omega, by rw [hc]; exact s0, by rw [hc]; rfl⟩) ?_) (fun g' I' b1 b2 => hQ3 g' I' b1 ?_)
            · intro H Lg d nc ns J Q hJ hq
              exact rh H Lg d nc ns J Q hJ (fun _ => b4 H Lg d nc ns J Q hJ hq) (fun e => absurd e n0)
            · intro H Lg d nc ns J Q hJ hq
              exact rh H Lg d nc ns J Q hJ (fun _ => b2 H Lg d nc ns J Q hJ hq) (fun e => absurd e n0)
          · have e0 : C.2.2 c = 0 := tk_0 (by omega) (Decidable.not_not.mp q3)
            refine F94 _ _ ?_
            intro H Lg d nc ns J Q hJ hq
            exact rh H Lg d nc ns J Q hJ (fun e => absurd e0 e) (fun _ => hq)
        · simp +decide only [mjs_0, mjs_1, mjs_2, mjs_3, mjs_ble, true_and, Bool.false_eq_true, if_false, if_true, Nat.reduceAdd, Nat.reduceSub, Nat.reduceLeDiff, false_implies, true_implies, not_false_eq_true, not_true_eq_false, and_true]
          refine mj_blk rfl ?_
          simp +decide only [mjs_0, mjs_1, mjs_2, mjs_3, mjs_ble, true_and, Bool.false_eq_true, if_false, if_true, Nat.reduceAdd, Nat.reduceSub, Nat.reduceLeDiff, false_implies, true_implies, not_false_eq_true, not_true_eq_false, and_true]
          refine F94 _ _ ?_
          intro H Lg d nc ns J Q hJ hq
          refine rf0 H Lg d nc ns J Q hJ s0 ?_
          obtain ⟨c1, c2⟩ := (rr_d hJ).2.2.2.2.2.2.1
          have j33 : J 36 33 = nI (c + 1) := by rw [c1, hc]
          have j57 : J 57 c = nI (C.2.1 c) := (c2 c (by omega)).1
          refine mj_blk rfl ?_
          simp +decide only [mjs_0, mjs_1, mjs_2, mjs_3, mjs_ble, true_and, Bool.false_eq_true, if_false, if_true, Nat.reduceAdd, Nat.reduceSub, Nat.reduceLeDiff, false_implies, true_implies, not_false_eq_true, not_true_eq_false, and_true, mm_sh, hm, mjs_up_at, mjs_up_c, mjs_up_f, j33, nI_pred]
          refine ⟨fun q => absurd q (nI_pos (by omega)), fun _ => mj_blk rfl ?_⟩
          simp +decide only [mjs_0, mjs_1, mjs_2, mjs_3, mjs_ble, true_and, Bool.false_eq_true, if_false, if_true, Nat.reduceAdd, Nat.reduceSub, Nat.reduceLeDiff, false_implies, true_implies, not_false_eq_true, not_true_eq_false, and_true, mm_sh, hm, mjs_up_at, mjs_up_c, mjs_up_f]
          refine mj_blk rfl ?_
          simp +decide only [mjs_0, mjs_1, mjs_2, mjs_3, mjs_ble, true_and, Bool.false_eq_true, if_false, if_true, Nat.reduceAdd, Nat.reduceSub, Nat.reduceLeDiff, false_implies, true_implies, not_false_eq_true, not_true_eq_false, and_true, mm_sh, hm, mjs_up_at, mjs_up_c, mjs_up_f, ec, j57]
          exact ⟨nI_in (by omega) (by decide), fun _ => rrF H Lg d nc ns J Q _ _ _ _ _ hJ hq, fun q => absurd (Decidable.not_not.mp q2) q⟩
      · -- fi
        simp +decide only [mjs_0, mjs_1, mjs_2, mjs_3, mjs_ble, true_and, Bool.false_eq_true, if_false, if_true, Nat.reduceAdd, Nat.reduceSub, Nat.reduceLeDiff, false_implies, true_implies, not_false_eq_true, not_true_eq_false, and_true, mc_sh, hr, mjs_up_at, mjs_up_c, mjs_up_f]
        refine mj_blk rfl ?_
        simp +decide only [mjs_0, mjs_1, mjs_2, mjs_3, mjs_ble, true_and, Bool.false_eq_true, if_false, if_true, Nat.reduceAdd, Nat.reduceSub, Nat.reduceLeDiff, false_implies, true_implies, not_false_eq_true, not_true_eq_false, and_true]
        refine mj_blk rfl ?_
        simp +decide only [mjs_0, mjs_1, mjs_2, mjs_3, mjs_ble, true_and, Bool.false_eq_true, if_false, if_true, Nat.reduceAdd, Nat.reduceSub, Nat.reduceLeDiff, false_implies, true_implies, not_false_eq_true, not_true_eq_false, and_true]
        refine mj_blk rfl ?_
        simp +decide only [mjs_0, mjs_1, mjs_2, mjs_3, mjs_ble, true_and, Bool.false_eq_true, if_false, if_true, Nat.reduceAdd, Nat.reduceSub, Nat.reduceLeDiff, false_implies, true_implies, not_false_eq_true, not_true_eq_false, and_true]
        refine mj_blk rfl ?_
        simp +decide only [mjs_0, mjs_1, mjs_2, mjs_3, mjs_ble, true_and, Bool.false_eq_true, if_false, if_true, Nat.reduceAdd, Nat.reduceSub, Nat.reduceLeDiff, false_implies, true_implies, not_false_eq_true, not_true_eq_false, and_true]
        refine mj_blk rfl ?_
        simp +decide only [mjs_0, mjs_1, mjs_2, mjs_3, mjs_ble, true_and, Bool.false_eq_true, if_false, if_true, Nat.reduceAdd, Nat.reduceSub, Nat.reduceLeDiff, false_implies, true_implies, not_false_eq_true, not_true_eq_false, and_true]
        refine mj_blk rfl ?_
        simp +decide only [mjs_0, mjs_1, mjs_2, mjs_3, mjs_ble, true_and, Bool.false_eq_true, if_false, if_true, Nat.reduceAdd, Nat.reduceSub, Nat.reduceLeDiff, false_implies, true_implies, not_false_eq_true, not_true_eq_false, and_true]
        refine mj_blk rfl ?_
        simp +decide only [mjs_0, mjs_1, mjs_2, mjs_3, mjs_ble, true_and, Bool.false_eq_true, if_false, if_true, Nat.reduceAdd, Nat.reduceSub, Nat.reduceLeDiff, false_implies, true_implies, not_false_eq_true, not_true_eq_false, and_true]
        refine mj_blk rfl ?_
        simp +decide only [mjs_0, mjs_1, mjs_2, mjs_3, mjs_ble, true_and, Bool.false_eq_true, if_false, if_true, Nat.reduceAdd, Nat.reduceSub, Nat.reduceLeDiff, false_implies, true_implies, not_false_eq_true, not_true_eq_false, and_true]
        refine mj_blk rfl ?_
        simp +decide only [mjs_0, mjs_1, mjs_2, mjs_3, mjs_ble, true_and, Bool.false_eq_true, if_false, if_true, Nat.reduceAdd, Nat.reduceSub, Nat.reduceLeDiff, false_implies, true_implies, not_false_eq_true, not_true_eq_false, and_true, mc_sh, hr, mjs_up_at, mjs_up_c, mjs_up_f]
        refine hQ1 P N (c, C.2) L _ (gv_C hv gc) (rc_Cn h (by omega)) nx_rf (Nat.le_refl _) (by omega) (Or.inr ⟨by omega, by rw [hc]; exact s0, by rw [hc]; rfl⟩) ?_
        intro H Lg d nc ns J Q hJ hq
        refine rf0 H Lg d nc ns J Q hJ s0 ?_
        have j33 : J 36 33 = nI (c + 1) := by rw [(rr_d hJ).2.2.2.2.2.2.1.1, hc]
        refine mj_blk rfl ?_
        simp +decide only [mjs_0, mjs_1, mjs_2, mjs_3, mjs_ble, true_and, Bool.false_eq_true, if_false, if_true, Nat.reduceAdd, Nat.reduceSub, Nat.reduceLeDiff, false_implies, true_implies, not_false_eq_true, not_true_eq_false, and_true, mm_sh, hm, mjs_up_at, mjs_up_c, mjs_up_f, j33, nI_pred]
        refine ⟨fun q => absurd q (nI_pos (by omega)), fun _ => mj_blk rfl ?_⟩
        simp +decide only [mjs_0, mjs_1, mjs_2, mjs_3, mjs_ble, true_and, Bool.false_eq_true, if_false, if_true, Nat.reduceAdd, Nat.reduceSub, Nat.reduceLeDiff, false_implies, true_implies, not_false_eq_true, not_true_eq_false, and_true, mm_sh, hm, mjs_up_at, mjs_up_c, mjs_up_f]
        refine mj_blk rfl ?_
        simp +decide only [mjs_0, mjs_1, mjs_2, mjs_3, mjs_ble, true_and, Bool.false_eq_true, if_false, if_true, Nat.reduceAdd, Nat.reduceSub, Nat.reduceLeDiff, false_implies, true_implies, not_false_eq_true, not_true_eq_false, and_true, mm_sh, hm, mjs_up_at, mjs_up_c, mjs_up_f]
        refine mj_blk rfl ?_
        simp +decide only [mjs_0, mjs_1, mjs_2, mjs_3, mjs_ble, true_and, Bool.false_eq_true, if_false, if_true, Nat.reduceAdd, Nat.reduceSub, Nat.reduceLeDiff, false_implies, true_implies, not_false_eq_true, not_true_eq_false, and_true, mm_sh, hm, mjs_up_at, mjs_up_c, mjs_up_f]
        refine mj_blk rfl ?_
        simp +decide only [mjs_0, mjs_1, mjs_2, mjs_3, mjs_ble, true_and, Bool.false_eq_true, if_false, if_true, Nat.reduceAdd, Nat.reduceSub, Nat.reduceLeDiff, false_implies, true_implies, not_false_eq_true, not_true_eq_false, and_true, mm_sh, hm, mjs_up_at, mjs_up_c, mjs_up_f]
        refine mj_blk rfl ?_
        simp +decide only [mjs_0, mjs_1, mjs_2, mjs_3, mjs_ble, true_and, Bool.false_eq_true, if_false, if_true, Nat.reduceAdd, Nat.reduceSub, Nat.reduceLeDiff, false_implies, true_implies, not_false_eq_true, not_true_eq_false, and_true, mm_sh, hm, mjs_up_at, mjs_up_c, mjs_up_f, j33, nI_pred]
        exact hq _ (rr_Cn hJ (by omega))
    · have s0 : C.2.1 c = 0 := tk_0 (by omega) (Decidable.not_not.mp q0)
      simp +decide only [mjs_0, mjs_1, mjs_2, mjs_3, mjs_ble, true_and, Bool.false_eq_true, if_false, if_true, Nat.reduceAdd, Nat.reduceSub, Nat.reduceLeDiff, false_implies, true_implies, not_false_eq_true, not_true_eq_false, and_true, mc_sh, hr, mjs_up_at, mjs_up_c, mjs_up_f]
      refine cq_84 hR h (by omega) (fun I1 h1 _ => ?_)
      simp +decide only [mjs_0, mjs_1, mjs_2, mjs_3, mjs_ble, true_and, Bool.false_eq_true, if_false, if_true, Nat.reduceAdd, Nat.reduceSub, Nat.reduceLeDiff, false_implies, true_implies, not_false_eq_true, not_true_eq_false, and_true, mc_sh, hr, mjs_up_at, mjs_up_c, mjs_up_f]
      refine cq_84 (t := 1114130) hR h1 (by rw [List.length_cons]; omega) (fun I2 h2 _ => ?_)
      simp +decide only [mjs_0, mjs_1, mjs_2, mjs_3, mjs_ble, true_and, Bool.false_eq_true, if_false, if_true, Nat.reduceAdd, Nat.reduceSub, Nat.reduceLeDiff, false_implies, true_implies, not_false_eq_true, not_true_eq_false, and_true, mc_sh, hr, mjs_up_at, mjs_up_c, mjs_up_f]
      have tvr : tv N.2.2 1114130 := Or.inr ⟨by decide, by decide, Or.inr ⟨by decide, by omega⟩⟩
      refine hQ1 (1114130 :: t :: P) N C L I2 (gv_P1 (gv_P1 hv ht) tvr) h2 nx_rf (Nat.le_refl _) (by simp) (Or.inl rfl) ?_
      intro H Lg d nc ns J Q hJ hq
      obtain ⟨c1, c2⟩ := (rr_d hJ).2.2.2.2.2.2.1
      have j33 : J 36 33 = nI (c + 1) := by rw [c1, hc]
      have j57 : J 57 c = 0 := by rw [(c2 c (by omega)).1, s0]; rfl
      refine mj_enter (z := (6, [], mb_153)) (by decide) rfl rfl ?_
      refine mj_blk rfl ?_
      simp +decide only [mjs_0, mjs_1, mjs_2, mjs_3, mjs_ble, true_and, Bool.false_eq_true, if_false, if_true, Nat.reduceAdd, Nat.reduceSub, Nat.reduceLeDiff, false_implies, true_implies, not_false_eq_true, not_true_eq_false, and_true, mm_sh, hm, mjs_up_at, mjs_up_c, mjs_up_f, j33]
      refine ⟨fun q => absurd q (nI_nle (by omega) (by omega)), fun _ => mj_blk rfl ?_⟩
      simp +decide only [mjs_0, mjs_1, mjs_2, mjs_3, mjs_ble, true_and, Bool.false_eq_true, if_false, if_true, Nat.reduceAdd, Nat.reduceSub, Nat.reduceLeDiff, false_implies, true_implies, not_false_eq_true, not_true_eq_false, and_true, mm_sh, hm, mjs_up_at, mjs_up_c, mjs_up_f, j33, nI_pred, ec, j57]
      refine ⟨nI_in (by omega) (by decide), mj_blk rfl ?_⟩
      simp +decide only [mjs_0, mjs_1, mjs_2, mjs_3, mjs_ble, true_and, Bool.false_eq_true, if_false, if_true, Nat.reduceAdd, Nat.reduceSub, Nat.reduceLeDiff, false_implies, true_implies, not_false_eq_true, not_true_eq_false, and_true, mm_sh, hm, mjs_up_at, mjs_up_c, mjs_up_f]
      refine rq_118 hM' hJ (by omega) (by omega) (fun J1 h1 => ?_)
      simp +decide only [mjs_0, mjs_1, mjs_2, mjs_3, mjs_ble, true_and, Bool.false_eq_true, if_false, if_true, Nat.reduceAdd, Nat.reduceSub, Nat.reduceLeDiff, false_implies, true_implies, not_false_eq_true, not_true_eq_false, and_true, mm_sh, hm, mjs_up_at, mjs_up_c, mjs_up_f]
      refine rq_118 (t := 1114130) hM' h1 (by decide) (by rw [List.length_cons]; omega) (fun J2 h2 => ?_)
      simp +decide only [mjs_0, mjs_1, mjs_2, mjs_3, mjs_ble, true_and, Bool.false_eq_true, if_false, if_true, Nat.reduceAdd, Nat.reduceSub, Nat.reduceLeDiff, false_implies, true_implies, not_false_eq_true, not_true_eq_false, and_true, mm_sh, hm, mjs_up_at, mjs_up_c, mjs_up_f]
      exact hq J2 h2
end MJCD
