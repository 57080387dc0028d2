/-! A CONDITION DECIDED: what it leaves out, in both -/
def lr (x left : Int32) (o : Nat) : Prop := (x < 0 ∧ left = x) ∨ ∃ n, n < 2 ^ 31 ∧ o < n ∧ x = nI n ∧ left = nI (n - o)
theorem lr_ne {x left : Int32} {o : Nat} (h : lr x left o) : ¬ left = 0 := by
  rcases h with ⟨h1, rfl⟩ | ⟨n, h1, h2, rfl, rfl⟩
  · intro e
    rw [e] at h1
    exact absurd h1 (by decide)
  · exact nI_ne0 (by omega) (by omega)
theorem lr_x {x left : Int32} {o : Nat} (h : lr x left o) : ¬ x = 0 := by
  rcases h with ⟨h1, rfl⟩ | ⟨n, h1, h2, rfl, rfl⟩
  · intro e
    rw [e] at h1
    exact absurd h1 (by decide)
  · exact nI_ne0 (by omega) (by omega)
section MJDE
variable {X : mj_X} {d nc ns : Nat} {Q : mj_Q} {I I' J J' H : Nat → Nat → Int32} {Lg : Nat → Nat → Int64} {Rf : Nat → Nat → Option Nat} {fb : Nat → Nat → Int32} {vb : Nat → Int32} {K : Nat × Nat × Nat} {P : List Nat} {E : sgE} {N : sgN} {S : sgS} {M : sgM} {C : sgC} {O : sgO} {L L' : sgL} {t j w o i : Nat} {x left : Int32}
def d_L (j w o : Nat) (x : Int32) (on : Int32) : mj_LV := [some (.ref 36), some (.int (nI j)), some (.int x), some (.int (nI w)), some (.int (nI o)), some (.int on), none]
def d_Q (X : mj_X) (Rf : Nat → Nat → Option Nat) (fb : Nat → Nat → Int32) (vb : Nat → Int32) (K : Nat × Nat × Nat) (E : sgE) (S : sgS) (M : sgM) (C : sgC) (O : sgO) (j : Nat) (x : Int32) (P : List Nat) (N : sgN) (L : sgL) (w o nc ns : Nat) (Lg : Nat → Nat → Int64) (Q : mj_Q) : Prop :=
  (∀ P' N' C' L' I', gv (K, P', E, N', S, M, C', O, L') → RC fb vb (K, P', E, N', S, M, C', O, L') I' → ge P N L P' N' L' → (C' = (j, C.2) ∨ C' = (j + 1, ud C.2.1 j 2, C.2.2) ∨ C' = (j + 1, C.2)) → RB X Rf mb_152 6 15 (d_L j w o x 1) [] (K, P, E, N, S, M, C, O, L) none (K, P', E, N', S, M, C', O, L') → Q (.inl none) (sh59, I', Lg, Rf, nc, ns)) ∧
  (∀ g' I', RCf fb vb g' I' → RBf X Rf mb_152 6 15 (d_L j w o x 1) [] (K, P, E, N, S, M, C, O, L) none g' → Q (.inr 500) (sh59, I', Lg, Rf, nc + 1, ns + 6))
theorem p_19s (hR : mj_Rt mp_R Rf) (hM' : mj_Rt mm_R Rf) (hr' : nc + 1 ≤ X.2.2.1 ∧ ns + 6 ≤ X.2.2.2) (hj : j < C.1) (hl : lr x left o) (hw : w ≤ 100 + i) (ho : o ≤ i) (hi : i ≤ 20000) (hp : P.length ≤ 10000) (hv : gv (K, P, E, N, S, M, C, O, L)) (h : RC fb vb (K, P, E, N, S, M, C, O, L) I) (hb : d_Q X Rf fb vb K E S M C O j x P N L w o nc ns Lg Q)
    (ih : ∀ (w' o' : Nat) (left' : Int32) (P1 : List Nat) (N1 : sgN) (L1 : sgL) (I1 : Nat → Nat → Int32), P1.length + tl L1 < P.length + tl L → P1.length ≤ 10000 → lr x left' o' → w' ≤ 100 + (i + 1) → o' ≤ i + 1 → gv (K, P1, E, N1, S, M, C, O, L1) → RC fb vb (K, P1, E, N1, S, M, C, O, L1) I1 → d_Q X Rf fb vb K E S M C O j x P1 N1 L1 w' o' nc ns Lg Q → mj_rn X (mj_hd []) (mj_call X mj_P (mj_bi X) (d + 3)) mb_19 22 [some (.ref 25), some (.int (nI j)), some (.int x), some (.int left'), some (.int (nI w')), some (.int (nI (i + 1))), none] [] (sh59, I1, Lg, Rf, nc, ns) Q) :
    mj_rn X (mj_hd []) (mj_call X mj_P (mj_bi X) (d + 3)) mb_19 22 [some (.ref 25), some (.int (nI j)), some (.int x), some (.int left), some (.int (nI w)), some (.int (nI i)), none] [] (sh59, I, Lg, Rf, nc, ns) Q := by
  have hr := mc_rf hR
  have hm := mm_rf hM'
  have hc100 : C.1 ≤ 100 := (gv_d hv).2.2.2.2.2.1.1
  have gC := (gv_d hv).2.2.2.2.2.1
  have ej : (nI j).toNatClampNeg = j := nI_clamp (by omega)
  refine mj_blk rfl ?_
  simp +decide only [mjs_0, mjs_1, mjs_2, mjs_3, mjs_ble, true_and, Bool.false_eq_true, if_false, if_true, Nat.reduceAdd, Nat.reduceSub, Nat.reduceLeDiff, false_implies, true_implies, not_false_eq_true, not_true_eq_false, and_true]
  refine ⟨fun q => absurd q (nI_ge (a := i) (b := 1000000000) (by omega) (by decide)), fun _ => mj_blk rfl ?_⟩
  simp +decide only [mjs_0, mjs_1, mjs_2, mjs_3, mjs_ble, true_and, Bool.false_eq_true, if_false, if_true, Nat.reduceAdd, Nat.reduceSub, Nat.reduceLeDiff, false_implies, true_implies, not_false_eq_true, not_true_eq_false, and_true]
  refine ⟨fun q => absurd q (lr_ne hl), fun _ => mj_blk rfl ?_⟩
  simp +decide only [mjs_0, mjs_1, mjs_2, mjs_3, mjs_ble, true_and, Bool.false_eq_true, if_false, if_true, Nat.reduceAdd, Nat.reduceSub, Nat.reduceLeDiff, false_implies, true_implies, not_false_eq_true, not_true_eq_false, and_true, mc_sh, hr, mjs_up_at, mjs_up_c, mjs_up_f]
  refine p_85n (d := d + 1) hR hM' hv h hp hr' (fun t P1 N1 L1 I1 a1 a2 a3 a4 a5 a6 a7 a8 => ?_) (fun g' I' a1 a2 => ?_)
  · have hge : ge P N L P1 N1 L1 := ⟨a3, by omega, a5.2, a6⟩
    have hgp := gp_le a1 a7
    have gj : C.2.1 j ≤ 2 ∧ C.2.2 j ≤ 1 := gC.2 j hj
    -- the reference's round: need, the token's tests
    have r34 : ∀ (H : Nat → Nat → Int32) (Lg : Nat → Nat → Int64) (d nc ns : Nat) (J : Nat → Nat → Int32) (Q : mj_Q), RR H (K, P, E, N, S, M, C, O, L) J → (∀ J1, RR H (K, P1, E, N1, S, M, C, O, L1) J1 → mj_rn X (mj_hd []) (mj_call X mj_P (mj_bi X) (d + 6)) mb_152 34 [some (.ref 36), some (.int (nI j)), some (.int x), some (.int (nI w)), some (.int (nI o)), some (.int 1), some (.int (nI (rt t)))] [] (sh59, J1, Lg, Rf, nc, ns) Q) → mj_rn X (mj_hd []) (mj_call X mj_P (mj_bi X) (d + 6)) mb_152 15 (d_L j w o x 1) [] (sh59, J, Lg, Rf, nc, ns) Q := by
      intro H Lg d nc ns J Q hJ hq
      unfold d_L
      refine mj_blk rfl ?_
      simp +decide only [mjs_0, mjs_1, mjs_2, mjs_3, mjs_ble, true_and, Bool.false_eq_true, if_false, if_true, Nat.reduceAdd, Nat.reduceSub, Nat.reduceLeDiff, false_implies, true_implies, not_false_eq_true, not_true_eq_false, and_true, mm_sh, hm, mjs_up_at, mjs_up_c, mjs_up_f]
      refine mj_blk rfl ?_
      simp +decide only [mjs_0, mjs_1, mjs_2, mjs_3, mjs_ble, true_and, Bool.false_eq_true, if_false, if_true, Nat.reduceAdd, Nat.reduceSub, Nat.reduceLeDiff, false_implies, true_implies, not_false_eq_true, not_true_eq_false, and_true, mm_sh, hm, mjs_up_at, mjs_up_c, mjs_up_f]
      refine a8 H Lg d nc ns J _ hJ (fun J1 hJ1 => ?_)
      simp +decide only [mjs_0, mjs_1, mjs_2, mjs_3, mjs_ble, true_and, Bool.false_eq_true, if_false, if_true, Nat.reduceAdd, Nat.reduceSub, Nat.reduceLeDiff, false_implies, true_implies, not_false_eq_true, not_true_eq_false, and_true, mm_sh, hm, mjs_up_at, mjs_up_c, mjs_up_f, (rr_d hJ1).1.2.2.2]
      exact hq J1 hJ1
    have r198 : ∀ (Lg : Nat → Nat → Int64) (d nc ns : Nat) (J1 : Nat → Nat → Int32) (Q : mj_Q) (w' o' : Nat) (on : Int32) (w6 : Option Value), mj_rn X (mj_hd []) (mj_call X mj_P (mj_bi X) (d + 6)) mb_152 15 (d_L j w' o' x on) [] (sh59, J1, Lg, Rf, nc, ns) Q → mj_rn X (mj_hd []) (mj_call X mj_P (mj_bi X) (d + 6)) mb_152 198 [some (.ref 36), some (.int (nI j)), some (.int x), some (.int (nI w')), some (.int (nI o')), some (.int on), w6] [] (sh59, J1, Lg, Rf, nc, ns) Q := by
      intro Lg d nc ns J1 Q w' o' on w6 hq
      refine mj_blk rfl ?_
      simp +decide only [mjs_0, mjs_1, mjs_2, mjs_3, mjs_ble, true_and, Bool.false_eq_true, if_false, if_true, Nat.reduceAdd, Nat.reduceSub, Nat.reduceLeDiff, false_implies, true_implies, not_false_eq_true, not_true_eq_false, and_true]
      exact hq
    have r49 : ∀ (H : Nat → Nat → Int32) (Lg : Nat → Nat → Int64) (d nc ns : Nat) (J : Nat → Nat → Int32) (Q : mj_Q), ¬ (8 ≤ gp S t ∧ gp S t ≤ 15) → RR H (K, P, E, N, S, M, C, O, L) J → (∀ J1, RR H (K, P1, E, N1, S, M, C, O, L1) J1 → (gp S t = 18 → mj_rn X (mj_hd []) (mj_call X mj_P (mj_bi X) (d + 6)) mb_152 60 [some (.ref 36), some (.int (nI j)), some (.int x), some (.int (nI w)), some (.int (nI o)), some (.int 1), some (.int (nI (rt t)))] [] (sh59, J1, Lg, Rf, nc, ns) Q) ∧ (gp S t ≠ 18 → mj_rn X (mj_hd []) (mj_call X mj_P (mj_bi X) (d + 6)) mb_152 94 [some (.ref 36), some (.int (nI j)), some (.int x), some (.int (nI w)), some (.int (nI o)), some (.int 1), some (.int (nI (rt t)))] [] (sh59, J1, Lg, Rf, nc, ns) Q)) → mj_rn X (mj_hd []) (mj_call X mj_P (mj_bi X) (d + 6)) mb_152 15 (d_L j w o x 1) [] (sh59, J, Lg, Rf, nc, ns) Q := by
      intro H Lg d nc ns J Q hn hJ hq
      refine r34 H Lg d nc ns J Q hJ (fun J1 hJ1 => ?_)
      obtain ⟨q1, q2⟩ := hq J1 hJ1
      refine mj_blk rfl ?_
      simp +decide only [mjs_0, mjs_1, mjs_2, mjs_3, mjs_ble, true_and, Bool.false_eq_true, if_false, if_true, Nat.reduceAdd, Nat.reduceSub, Nat.reduceLeDiff, false_implies, true_implies, not_false_eq_true, not_true_eq_false, and_true, mm_sh, hm, mjs_up_at, mjs_up_c, mjs_up_f]
      refine rq_151 (d := d + 2) hM' hJ1 a1 a7 (fun hh => absurd hh hn) (fun _ => ?_)
      simp +decide only [mjs_0, mjs_1, mjs_2, mjs_3, mjs_ble, true_and, Bool.false_eq_true, if_false, if_true, Nat.reduceAdd, Nat.reduceSub, Nat.reduceLeDiff, false_implies, true_implies, not_false_eq_true, not_true_eq_false, and_true, mm_sh, hm, mjs_up_at, mjs_up_c, mjs_up_f]
      refine mj_blk rfl ?_
      simp +decide only [mjs_0, mjs_1, mjs_2, mjs_3, mjs_ble, true_and, Bool.false_eq_true, if_false, if_true, Nat.reduceAdd, Nat.reduceSub, Nat.reduceLeDiff, false_implies, true_implies, not_false_eq_true, not_true_eq_false, and_true, mm_sh, hm, mjs_up_at, mjs_up_c, mjs_up_f]
      refine rq_126 (d := d + 2) (p := 18) (k := 17) hM' hJ1 a1 a7 (by decide) (by decide) (by decide) (fun h18 => ?_) (fun h18 => ?_)
      · simp +decide only [mjs_0, mjs_1, mjs_2, mjs_3, mjs_ble, true_and, Bool.false_eq_true, if_false, if_true, Nat.reduceAdd, Nat.reduceSub, Nat.reduceLeDiff, false_implies, true_implies, not_false_eq_true, not_true_eq_false, and_true, mm_sh, hm, mjs_up_at, mjs_up_c, mjs_up_f]
        exact q1 h18
      · simp +decide only [mjs_0, mjs_1, mjs_2, mjs_3, mjs_ble, true_and, Bool.false_eq_true, if_false, if_true, Nat.reduceAdd, Nat.reduceSub, Nat.reduceLeDiff, false_implies, true_implies, not_false_eq_true, not_true_eq_false, and_true, mm_sh, hm, mjs_up_at, mjs_up_c, mjs_up_f]
        exact q2 h18
    -- the class's next round
    have K165 : ∀ (w' o' : Nat) (left' : Int32) (w6 : Option Value), lr x left' o' → w' ≤ 100 + (i + 1) → o' ≤ i + 1 → (∀ (H : Nat → Nat → Int32) (Lg : Nat → Nat → Int64) (d nc ns : Nat) (J : Nat → Nat → Int32) (Q : mj_Q), RR H (K, P, E, N, S, M, C, O, L) J → (∀ J1, RR H (K, P1, E, N1, S, M, C, O, L1) J1 → mj_rn X (mj_hd []) (mj_call X mj_P (mj_bi X) (d + 6)) mb_152 15 (d_L j w' o' x 1) [] (sh59, J1, Lg, Rf, nc, ns) Q) → mj_rn X (mj_hd []) (mj_call X mj_P (mj_bi X) (d + 6)) mb_152 15 (d_L j w o x 1) [] (sh59, J, Lg, Rf, nc, ns) Q) → mj_rn X (mj_hd []) (mj_call X mj_P (mj_bi X) (d + 3)) mb_19 165 [some (.ref 25), some (.int (nI j)), some (.int x), some (.int left'), some (.int (nI w')), some (.int (nI i)), w6] [] (sh59, I1, Lg, Rf, nc, ns) Q := by
      intro w' o' left' w6 hl' hw' ho' hs
      refine mj_blk rfl ?_
      simp +decide only [mjs_0, mjs_1, mjs_2, mjs_3, mjs_ble, true_and, Bool.false_eq_true, if_false, if_true, Nat.reduceAdd, Nat.reduceSub, Nat.reduceLeDiff, false_implies, true_implies, not_false_eq_true, not_true_eq_false, and_true, nI_1]
      refine ih w' o' left' P1 N1 L1 I1 (by omega) (by omega) hl' hw' ho' a1 a2 ⟨fun P' N' C' L' I' b1 b2 b3 b4 b5 => hb.1 P' N' C' L' I' b1 b2 (ge_tr hge b3) b4 ?_, fun g' I' b1 b2 => hb.2 g' I' b1 ?_⟩
      · intro H Lg d nc ns J Q hJ hq
        exact hs H Lg d nc ns J Q hJ (fun J1 hJ1 => b5 H Lg d nc ns J1 Q hJ1 hq)
      · intro H Lg d nc ns J Q hJ hq
        exact hs H Lg d nc ns J Q hJ (fun J1 hJ1 => b2 H Lg d nc ns J1 Q hJ1 hq)
    -- the class leaves the loop
    have K165e : ∀ (I2 : Nat → Nat → Int32) (C' : sgC) (y : Int32) (w6 : Option Value), C'.1 = C.1 → gv (K, P1, E, N1, S, M, (j + 1, C'.2), O, L1) → RC fb vb (K, P1, E, N1, S, M, C', O, L1) I2 → (C' = (C.1, ud C.2.1 j 2, C.2.2) ∨ C' = C) → RB X Rf mb_152 6 15 (d_L j w o x 1) [] (K, P, E, N, S, M, C, O, L) none (K, P1, E, N1, S, M, (j + 1, C'.2), O, L1) → mj_rn X (mj_hd []) (mj_call X mj_P (mj_bi X) (d + 3)) mb_19 165 [some (.ref 25), some (.int (nI j)), some (.int x), some (.int 0), some (.int y), some (.int (nI i)), w6] [] (sh59, I2, Lg, Rf, nc, ns) Q := by
      intro I2 C' y w6 hc b1 b2 b3 b4
      have w4' : ∀ w4 : Option Value, mj_rn X (mj_hd []) (mj_call X mj_P (mj_bi X) (d + 3)) mb_19 22 [some (.ref 25), some (.int (nI j)), some (.int x), some (.int 0), w4, some (.int (nI (i + 1))), none] [] (sh59, I2, Lg, Rf, nc, ns) Q := by
        intro w4
        refine mj_blk rfl ?_
        simp +decide only [mjs_0, mjs_1, mjs_2, mjs_3, mjs_ble, true_and, Bool.false_eq_true, if_false, if_true, Nat.reduceAdd, Nat.reduceSub, Nat.reduceLeDiff, false_implies, true_implies, not_false_eq_true, not_true_eq_false, and_true]
        refine ⟨fun q => absurd q (nI_ge (a := i + 1) (b := 1000000000) (by omega) (by decide)), fun _ => mj_blk rfl ?_⟩
        simp +decide only [mjs_0, mjs_1, mjs_2, mjs_3, mjs_ble, true_and, Bool.false_eq_true, if_false, if_true, Nat.reduceAdd, Nat.reduceSub, Nat.reduceLeDiff, false_implies, true_implies, not_false_eq_true, not_true_eq_false, and_true]
        refine mj_blk rfl ?_
        simp +decide only [mjs_0, mjs_1, mjs_2, mjs_3, mjs_ble, true_and, Bool.false_eq_true, if_false, if_true, Nat.reduceAdd, Nat.reduceSub, Nat.reduceLeDiff, false_implies, true_implies, not_false_eq_true, not_true_eq_false, and_true]
        refine ⟨fun _ => mj_blk rfl ?_, fun q => absurd (lr_x hl) q⟩
        simp +decide only [mjs_0, mjs_1, mjs_2, mjs_3, mjs_ble, true_and, Bool.false_eq_true, if_false, if_true, Nat.reduceAdd, Nat.reduceSub, Nat.reduceLeDiff, false_implies, true_implies, not_false_eq_true, not_true_eq_false, and_true, nI_1]
        refine mj_blk rfl ?_
        simp +decide only [mjs_0, mjs_1, mjs_2, mjs_3, mjs_ble, true_and, Bool.false_eq_true, if_false, if_true, Nat.reduceAdd, Nat.reduceSub, Nat.reduceLeDiff, false_implies, true_implies, not_false_eq_true, not_true_eq_false, and_true, mc_sh, hr, mjs_up_at, mjs_up_c, mjs_up_f]
        refine hb.1 P1 N1 (j + 1, C'.2) L1 _ b1 (rc_Cn b2 (by omega)) hge ?_ b4
        rcases b3 with rfl | rfl
        · exact Or.inr (Or.inl rfl)
        · exact Or.inr (Or.inr rfl)
      refine mj_blk rfl ?_
      simp +decide only [mjs_0, mjs_1, mjs_2, mjs_3, mjs_ble, true_and, Bool.false_eq_true, if_false, if_true, Nat.reduceAdd, Nat.reduceSub, Nat.reduceLeDiff, false_implies, true_implies, not_false_eq_true, not_true_eq_false, and_true, nI_1]
      exact w4' _
    have gc1 : ∀ f : Nat → Nat, (∀ k, k < C.1 → f k ≤ 2) → gvC (j + 1, f, C.2.2) := fun f hf => ⟨by simp only; omega, fun k hk => ⟨hf k (by simp only at hk; omega), (gC.2 k (by simp only at hk; omega)).2⟩⟩
    have K70 : ¬ (8 ≤ gp S t ∧ gp S t ≤ 15) → mj_rn X (mj_hd []) (mj_call X mj_P (mj_bi X) (d + 3)) mb_19 70 [some (.ref 25), some (.int (nI j)), some (.int x), some (.int left), some (.int (nI w)), some (.int (nI i)), some (.int (nI (gp S t)))] [] (sh59, I1, Lg, Rf, nc, ns) Q := by
      intro hn
      cases w with
      | succ w =>
        -- within another one
        refine mj_blk rfl ?_
        simp +decide only [mjs_0, mjs_1, mjs_2, mjs_3, mjs_ble, true_and, Bool.false_eq_true, if_false, if_true, Nat.reduceAdd, Nat.reduceSub, Nat.reduceLeDiff, false_implies, true_implies, not_false_eq_true, not_true_eq_false, and_true]
        refine ⟨fun q => absurd q (nI_nle (by omega) (by omega)), fun _ => mj_blk rfl ?_⟩
        simp +decide only [mjs_0, mjs_1, mjs_2, mjs_3, mjs_ble, true_and, Bool.false_eq_true, if_false, if_true, Nat.reduceAdd, Nat.reduceSub, Nat.reduceLeDiff, false_implies, true_implies, not_false_eq_true, not_true_eq_false, and_true]
        have K89 : ∀ (y : Int32) (w' : Nat) (w4 w6 : Option Value), nI (w + 1) - y = nI w' → w' ≤ w + 1 → (∀ (H : Nat → Nat → Int32) (Lg : Nat → Nat → Int64) (d nc ns : Nat) (J : Nat → Nat → Int32) (Q : mj_Q), RR H (K, P, E, N, S, M, C, O, L) J → (∀ J1, RR H (K, P1, E, N1, S, M, C, O, L1) J1 → mj_rn X (mj_hd []) (mj_call X mj_P (mj_bi X) (d + 6)) mb_152 15 (d_L j w' o x 1) [] (sh59, J1, Lg, Rf, nc, ns) Q) → mj_rn X (mj_hd []) (mj_call X mj_P (mj_bi X) (d + 6)) mb_152 15 (d_L j (w + 1) o x 1) [] (sh59, J, Lg, Rf, nc, ns) Q) → mj_rn X (mj_hd []) (mj_call X mj_P (mj_bi X) (d + 3)) mb_19 89 [some (.ref 25), some (.int (nI j)), some (.int x), some (.int left), w4, some (.int (nI i)), w6] [.int y, .int (nI (w + 1))] (sh59, I1, Lg, Rf, nc, ns) Q := by
          intro y w' w4 w6 hy hw' hs
          refine mj_blk rfl ?_
          simp +decide only [mjs_0, mjs_1, mjs_2, mjs_3, mjs_ble, true_and, Bool.false_eq_true, if_false, if_true, Nat.reduceAdd, Nat.reduceSub, Nat.reduceLeDiff, false_implies, true_implies, not_false_eq_true, not_true_eq_false, and_true, hy]
          exact K165 w' o left _ hl (by omega) (by omega) hs
        refine ⟨fun q => mj_blk rfl ?_, fun q => mj_blk rfl ?_⟩
        · have n18 : gp S t ≠ 18 := fun e => q (by rw [e]; rfl)
          simp +decide only [mjs_0, mjs_1, mjs_2, mjs_3, mjs_ble, true_and, Bool.false_eq_true, if_false, if_true, Nat.reduceAdd, Nat.reduceSub, Nat.reduceLeDiff, false_implies, true_implies, not_false_eq_true, not_true_eq_false, and_true]
          refine K89 0 (w + 1) _ _ (Int32.sub_zero _) (Nat.le_refl _) (fun H Lg d nc ns J Q hJ hq => r49 H Lg d nc ns J Q hn hJ (fun J1 hJ1 => ⟨fun e => absurd e n18, fun _ => ?_⟩))
          refine mj_blk rfl ?_
          simp +decide only [mjs_0, mjs_1, mjs_2, mjs_3, mjs_ble, true_and, Bool.false_eq_true, if_false, if_true, Nat.reduceAdd, Nat.reduceSub, Nat.reduceLeDiff, false_implies, true_implies, not_false_eq_true, not_true_eq_false, and_true, mm_sh, hm, mjs_up_at, mjs_up_c, mjs_up_f]
          refine ⟨fun _ => mj_blk rfl ?_, fun q => absurd (nI_ne0 (by omega) (by omega)) q⟩
          simp +decide only [mjs_0, mjs_1, mjs_2, mjs_3, mjs_ble, true_and, Bool.false_eq_true, if_false, if_true, Nat.reduceAdd, Nat.reduceSub, Nat.reduceLeDiff, false_implies, true_implies, not_false_eq_true, not_true_eq_false, and_true, mm_sh, hm, mjs_up_at, mjs_up_c, mjs_up_f]
          refine ⟨fun _ => r198 _ _ _ _ _ _ _ _ _ _ (hq J1 hJ1), fun q => absurd (nI_ne0 (by omega) (by omega)) q⟩
        · have e18 : gp S t = 18 := (nI_eq (by omega) (by decide)).mp (show nI (gp S t) = nI 18 from Decidable.not_not.mp q)
          simp +decide only [mjs_0, mjs_1, mjs_2, mjs_3, mjs_ble, true_and, Bool.false_eq_true, if_false, if_true, Nat.reduceAdd, Nat.reduceSub, Nat.reduceLeDiff, false_implies, true_implies, not_false_eq_true, not_true_eq_false, and_true]
          refine K89 1 w _ _ (nI_pred w) (by omega) (fun H Lg d nc ns J Q hJ hq => r49 H Lg d nc ns J Q hn hJ (fun J1 hJ1 => ⟨fun _ => ?_, fun e => absurd e18 e⟩))
          refine mj_blk rfl ?_
          simp +decide only [mjs_0, mjs_1, mjs_2, mjs_3, mjs_ble, true_and, Bool.false_eq_true, if_false, if_true, Nat.reduceAdd, Nat.reduceSub, Nat.reduceLeDiff, false_implies, true_implies, not_false_eq_true, not_true_eq_false, and_true, mm_sh, hm, mjs_up_at, mjs_up_c, mjs_up_f]
          refine ⟨fun q => absurd q (nI_nle (by omega) (by omega)), fun _ => mj_blk rfl ?_⟩
          simp +decide only [mjs_0, mjs_1, mjs_2, mjs_3, mjs_ble, true_and, Bool.false_eq_true, if_false, if_true, Nat.reduceAdd, Nat.reduceSub, Nat.reduceLeDiff, false_implies, true_implies, not_false_eq_true, not_true_eq_false, and_true, mm_sh, hm, mjs_up_at, mjs_up_c, mjs_up_f]
          refine mj_blk rfl ?_
          simp +decide only [mjs_0, mjs_1, mjs_2, mjs_3, mjs_ble, true_and, Bool.false_eq_true, if_false, if_true, Nat.reduceAdd, Nat.reduceSub, Nat.reduceLeDiff, false_implies, true_implies, not_false_eq_true, not_true_eq_false, and_true, mm_sh, hm, mjs_up_at, mjs_up_c, mjs_up_f]
          refine mj_blk rfl ?_
          simp +decide only [mjs_0, mjs_1, mjs_2, mjs_3, mjs_ble, true_and, Bool.false_eq_true, if_false, if_true, Nat.reduceAdd, Nat.reduceSub, Nat.reduceLeDiff, false_implies, true_implies, not_false_eq_true, not_true_eq_false, and_true, mm_sh, hm, mjs_up_at, mjs_up_c, mjs_up_f]
          refine mj_blk rfl ?_
          simp +decide only [mjs_0, mjs_1, mjs_2, mjs_3, mjs_ble, true_and, Bool.false_eq_true, if_false, if_true, Nat.reduceAdd, Nat.reduceSub, Nat.reduceLeDiff, false_implies, true_implies, not_false_eq_true, not_true_eq_false, and_true, mm_sh, hm, mjs_up_at, mjs_up_c, mjs_up_f, pk_m1]
          rw [mj_up_id]
          exact r198 _ _ _ _ _ _ _ _ _ _ (hq J1 hJ1)
      | zero =>
        refine mj_blk rfl ?_
        simp +decide only [mjs_0, mjs_1, mjs_2, mjs_3, mjs_ble, true_and, Bool.false_eq_true, if_false, if_true, Nat.reduceAdd, Nat.reduceSub, Nat.reduceLeDiff, false_implies, true_implies, not_false_eq_true, not_true_eq_false, and_true]
        refine mj_blk rfl ?_
        simp +decide only [mjs_0, mjs_1, mjs_2, mjs_3, mjs_ble, true_and, Bool.false_eq_true, if_false, if_true, Nat.reduceAdd, Nat.reduceSub, Nat.reduceLeDiff, false_implies, true_implies, not_false_eq_true, not_true_eq_false, and_true]
        refine ⟨fun q => mj_blk rfl ?_, fun q => mj_blk rfl ?_⟩
        · have n18 : gp S t ≠ 18 := fun e => q (by rw [e]; rfl)
          simp +decide only [mjs_0, mjs_1, mjs_2, mjs_3, mjs_ble, true_and, Bool.false_eq_true, if_false, if_true, Nat.reduceAdd, Nat.reduceSub, Nat.reduceLeDiff, false_implies, true_implies, not_false_eq_true, not_true_eq_false, and_true]
          refine ⟨fun q => mj_blk rfl ?_, fun q => mj_blk rfl ?_⟩
          · have n16 : gp S t ≠ 16 := fun e => q (by rw [e]; rfl)
            simp +decide only [mjs_0, mjs_1, mjs_2, mjs_3, mjs_ble, true_and, Bool.false_eq_true, if_false, if_true, Nat.reduceAdd, Nat.reduceSub, Nat.reduceLeDiff, false_implies, true_implies, not_false_eq_true, not_true_eq_false, and_true]
            -- the reference, when it is none of fi and else
            have r133 : ∀ (H : Nat → Nat → Int32) (Lg : Nat → Nat → Int64) (d nc ns : Nat) (J : Nat → Nat → Int32) (Q : mj_Q), RR H (K, P, E, N, S, M, C, O, L) J → (∀ J1, RR H (K, P1, E, N1, S, M, C, O, L1) J1 → (gp S t = 17 → mj_rn X (mj_hd []) (mj_call X mj_P (mj_bi X) (d + 6)) mb_152 144 [some (.ref 36), some (.int (nI j)), some (.int x), some (.int (nI 0)), some (.int (nI o)), some (.int 1), some (.int (nI (rt t)))] [] (sh59, J1, Lg, Rf, nc, ns) Q) ∧ (gp S t ≠ 17 → mj_rn X (mj_hd []) (mj_call X mj_P (mj_bi X) (d + 6)) mb_152 15 (d_L j 0 o x 1) [] (sh59, J1, Lg, Rf, nc, ns) Q)) → mj_rn X (mj_hd []) (mj_call X mj_P (mj_bi X) (d + 6)) mb_152 15 (d_L j 0 o x 1) [] (sh59, J, Lg, Rf, nc, ns) Q := by
              intro H Lg d nc ns J Q hJ hq
              refine r49 H Lg d nc ns J Q hn hJ (fun J1 hJ1 => ⟨fun e => absurd e n18, fun _ => ?_⟩)
              obtain ⟨q1, q2⟩ := hq J1 hJ1
              refine mj_blk rfl ?_
              simp +decide only [mjs_0, mjs_1, mjs_2, mjs_3, mjs_ble, true_and, Bool.false_eq_true, if_false, if_true, Nat.reduceAdd, Nat.reduceSub, Nat.reduceLeDiff, false_implies, true_implies, not_false_eq_true, not_true_eq_false, and_true, mm_sh, hm, mjs_up_at, mjs_up_c, mjs_up_f]
              refine mj_blk rfl ?_
              simp +decide only [mjs_0, mjs_1, mjs_2, mjs_3, mjs_ble, true_and, Bool.false_eq_true, if_false, if_true, Nat.reduceAdd, Nat.reduceSub, Nat.reduceLeDiff, false_implies, true_implies, not_false_eq_true, not_true_eq_false, and_true, mm_sh, hm, mjs_up_at, mjs_up_c, mjs_up_f]
              refine rq_126 (d := d + 2) (p := 16) (k := 15) hM' hJ1 a1 a7 (by decide) (by decide) (by decide) (fun hh => absurd hh n16) (fun _ => ?_)
              simp +decide only [mjs_0, mjs_1, mjs_2, mjs_3, mjs_ble, true_and, Bool.false_eq_true, if_false, if_true, Nat.reduceAdd, Nat.reduceSub, Nat.reduceLeDiff, false_implies, true_implies, not_false_eq_true, not_true_eq_false, and_true, mm_sh, hm, mjs_up_at, mjs_up_c, mjs_up_f]
              refine mj_blk rfl ?_
              simp +decide only [mjs_0, mjs_1, mjs_2, mjs_3, mjs_ble, true_and, Bool.false_eq_true, if_false, if_true, Nat.reduceAdd, Nat.reduceSub, Nat.reduceLeDiff, false_implies, true_implies, not_false_eq_true, not_true_eq_false, and_true, mm_sh, hm, mjs_up_at, mjs_up_c, mjs_up_f]
              refine mj_blk rfl ?_
              simp +decide only [mjs_0, mjs_1, mjs_2, mjs_3, mjs_ble, true_and, Bool.false_eq_true, if_false, if_true, Nat.reduceAdd, Nat.reduceSub, Nat.reduceLeDiff, false_implies, true_implies, not_false_eq_true, not_true_eq_false, and_true, mm_sh, hm, mjs_up_at, mjs_up_c, mjs_up_f]
              refine rq_126 (d := d + 2) (p := 17) (k := 16) hM' hJ1 a1 a7 (by decide) (by decide) (by decide) (fun hh => ?_) (fun hh => ?_)
              · simp +decide only [mjs_0, mjs_1, mjs_2, mjs_3, mjs_ble, true_and, Bool.false_eq_true, if_false, if_true, Nat.reduceAdd, Nat.reduceSub, Nat.reduceLeDiff, false_implies, true_implies, not_false_eq_true, not_true_eq_false, and_true, mm_sh, hm, mjs_up_at, mjs_up_c, mjs_up_f]
                exact q1 hh
              · simp +decide only [mjs_0, mjs_1, mjs_2, mjs_3, mjs_ble, true_and, Bool.false_eq_true, if_false, if_true, Nat.reduceAdd, Nat.reduceSub, Nat.reduceLeDiff, false_implies, true_implies, not_false_eq_true, not_true_eq_false, and_true, mm_sh, hm, mjs_up_at, mjs_up_c, mjs_up_f]
                exact r198 Lg d nc ns J1 Q 0 o 1 _ (q2 hh)
            refine ⟨fun q => ?_, fun q => mj_blk rfl ?_⟩
            · have n17 : gp S t ≠ 17 := fun e => q (by rw [e]; rfl)
              exact K165 0 o left _ hl (by omega) (by omega) (fun H Lg d nc ns J Q hJ hq => r133 H Lg d nc ns J Q hJ (fun J1 hJ1 => ⟨fun e => absurd e n17, fun _ => hq J1 hJ1⟩))
            · have e17 : gp S t = 17 := (nI_eq (by omega) (by decide)).mp (show nI (gp S t) = nI 17 from Decidable.not_not.mp q)
              have hch : I1 27 j = nI (C.2.2 j) := ((rc_d a2).2.2.2.2.2.2.1.2 j hj).2
              simp +decide only [mjs_0, mjs_1, mjs_2, mjs_3, mjs_ble, true_and, Bool.false_eq_true, if_false, if_true, Nat.reduceAdd, Nat.reduceSub, Nat.reduceLeDiff, false_implies, true_implies, not_false_eq_true, not_true_eq_false, and_true, mc_sh, hr, mjs_up_at, mjs_up_c, mjs_up_f, ej, hch]
              refine ⟨nI_in (by omega) (by decide), fun q => mj_blk rfl ?_, fun q => mj_blk rfl ?_⟩
              · have n0 : C.2.2 j ≠ 0 := fun e => q (by rw [e]; rfl)
                -- the reference counts an or
                have r159 : ∀ (H : Nat → Nat → Int32) (Lg : Nat → Nat → Int64) (d nc ns : Nat) (J : Nat → Nat → Int32) (Q : mj_Q), RR H (K, P, E, N, S, M, C, O, L) J → (∀ J1, RR H (K, P1, E, N1, S, M, C, O, L1) J1 → mj_rn X (mj_hd []) (mj_call X mj_P (mj_bi X) (d + 6)) mb_152 159 [some (.ref 36), some (.int (nI j)), some (.int x), some (.int (nI 0)), some (.int (nI o)), none, none] [] (sh59, J1, Lg, Rf, nc, ns) Q) → mj_rn X (mj_hd []) (mj_call X mj_P (mj_bi X) (d + 6)) mb_152 15 (d_L j 0 o x 1) [] (sh59, J, Lg, Rf, nc, ns) Q := by
                  intro H Lg d nc ns J Q hJ hq
                  refine r133 H Lg d nc ns J Q hJ (fun J1 hJ1 => ⟨fun _ => ?_, fun e => absurd e17 e⟩)
                  have j56 : J1 56 j = nI (C.2.2 j) := ((rr_d hJ1).2.2.2.2.2.2.1.2 j hj).2
                  refine mj_blk rfl ?_
                  simp +decide only [mjs_0, mjs_1, mjs_2, mjs_3, mjs_ble, true_and, Bool.false_eq_true, if_false, if_true, Nat.reduceAdd, Nat.reduceSub, Nat.reduceLeDiff, false_implies, true_implies, not_false_eq_true, not_true_eq_false, and_true, mm_sh, hm, mjs_up_at, mjs_up_c, mjs_up_f, ej, j56]
                  refine ⟨nI_in (by omega) (by decide), fun _ => hq J1 hJ1, fun q => absurd (nI_ne0 (by omega) (by omega)) q⟩
                have r177 : ∀ (Lg : Nat → Nat → Int64) (d nc ns : Nat) (J1 : Nat → Nat → Int32) (Q : mj_Q) (w5 w6 : Option Value), mj_rn X (mj_hd []) (mj_call X mj_P (mj_bi X) (d + 6)) mb_152 15 (d_L j 0 (o + 1) x 1) [] (sh59, J1, Lg, Rf, nc, ns) Q → mj_rn X (mj_hd []) (mj_call X mj_P (mj_bi X) (d + 6)) mb_152 172 [some (.ref 36), some (.int (nI j)), some (.int x), some (.int (nI 0)), some (.int (nI (o + 1))), w5, w6] [] (sh59, J1, Lg, Rf, nc, ns) Q := by
                  intro Lg d nc ns J1 Q w5 w6 hq
                  refine mj_blk rfl ?_
                  simp +decide only [mjs_0, mjs_1, mjs_2, mjs_3, mjs_ble, true_and, Bool.false_eq_true, if_false, if_true, Nat.reduceAdd, Nat.reduceSub, Nat.reduceLeDiff, false_implies, true_implies, not_false_eq_true, not_true_eq_false, and_true, mm_sh, hm, mjs_up_at, mjs_up_c, mjs_up_f]
                  refine mj_blk rfl ?_
                  simp +decide only [mjs_0, mjs_1, mjs_2, mjs_3, mjs_ble, true_and, Bool.false_eq_true, if_false, if_true, Nat.reduceAdd, Nat.reduceSub, Nat.reduceLeDiff, false_implies, true_implies, not_false_eq_true, not_true_eq_false, and_true, mm_sh, hm, mjs_up_at, mjs_up_c, mjs_up_f]
                  refine mj_blk rfl ?_
                  simp +decide only [mjs_0, mjs_1, mjs_2, mjs_3, mjs_ble, true_and, Bool.false_eq_true, if_false, if_true, Nat.reduceAdd, Nat.reduceSub, Nat.reduceLeDiff, false_implies, true_implies, not_false_eq_true, not_true_eq_false, and_true, mm_sh, hm, mjs_up_at, mjs_up_c, mjs_up_f]
                  refine mj_blk rfl ?_
                  simp +decide only [mjs_0, mjs_1, mjs_2, mjs_3, mjs_ble, true_and, Bool.false_eq_true, if_false, if_true, Nat.reduceAdd, Nat.reduceSub, Nat.reduceLeDiff, false_implies, true_implies, not_false_eq_true, not_true_eq_false, and_true, mm_sh, hm, mjs_up_at, mjs_up_c, mjs_up_f]
                  rw [mj_up_id]
                  exact r198 _ _ _ _ _ _ 0 _ _ _ hq
                rcases id hl with ⟨l1, l2⟩ | ⟨n, l0, l1, l2, l3⟩
                · simp +decide only [mjs_0, mjs_1, mjs_2, mjs_3, mjs_ble, true_and, Bool.false_eq_true, if_false, if_true, Nat.reduceAdd, Nat.reduceSub, Nat.reduceLeDiff, false_implies, true_implies, not_false_eq_true, not_true_eq_false, and_true]
                  refine ⟨fun _ => mj_blk rfl ?_, fun q => absurd (by rw [l2]; exact Int32.le_of_lt l1) q⟩
                  simp +decide only [mjs_0, mjs_1, mjs_2, mjs_3, mjs_ble, true_and, Bool.false_eq_true, if_false, if_true, Nat.reduceAdd, Nat.reduceSub, Nat.reduceLeDiff, false_implies, true_implies, not_false_eq_true, not_true_eq_false, and_true]
                  refine mj_blk rfl ?_
                  simp +decide only [mjs_0, mjs_1, mjs_2, mjs_3, mjs_ble, true_and, Bool.false_eq_true, if_false, if_true, Nat.reduceAdd, Nat.reduceSub, Nat.reduceLeDiff, false_implies, true_implies, not_false_eq_true, not_true_eq_false, and_true, Int32.sub_zero]
                  refine K165 0 (o + 1) left _ (Or.inl ⟨l1, l2⟩) (by omega) (by omega) (fun H Lg d nc ns J Q hJ hq => r159 H Lg d nc ns J Q hJ (fun J1 hJ1 => ?_))
                  refine mj_blk rfl ?_
                  simp +decide only [mjs_0, mjs_1, mjs_2, mjs_3, mjs_ble, true_and, Bool.false_eq_true, if_false, if_true, Nat.reduceAdd, Nat.reduceSub, Nat.reduceLeDiff, false_implies, true_implies, not_false_eq_true, not_true_eq_false, and_true, mm_sh, hm, mjs_up_at, mjs_up_c, mjs_up_f, nI_1]
                  exact ⟨fun _ => r177 _ _ _ _ _ _ _ _ (hq J1 hJ1), fun q => absurd l1 q⟩
                · have hpos : ¬ left ≤ 0 := by
                    rw [l3]
                    exact nI_nle (by omega) (by omega)
                  have hxn : ¬ x < 0 := by
                    rw [l2]
                    exact nI_pos l0
                  simp +decide only [mjs_0, mjs_1, mjs_2, mjs_3, mjs_ble, true_and, Bool.false_eq_true, if_false, if_true, Nat.reduceAdd, Nat.reduceSub, Nat.reduceLeDiff, false_implies, true_implies, not_false_eq_true, not_true_eq_false, and_true]
                  refine ⟨fun q => absurd q hpos, fun _ => mj_blk rfl ?_⟩
                  simp +decide only [mjs_0, mjs_1, mjs_2, mjs_3, mjs_ble, true_and, Bool.false_eq_true, if_false, if_true, Nat.reduceAdd, Nat.reduceSub, Nat.reduceLeDiff, false_implies, true_implies, not_false_eq_true, not_true_eq_false, and_true]
                  refine mj_blk rfl ?_
                  simp +decide only [mjs_0, mjs_1, mjs_2, mjs_3, mjs_ble, true_and, Bool.false_eq_true, if_false, if_true, Nat.reduceAdd, Nat.reduceSub, Nat.reduceLeDiff, false_implies, true_implies, not_false_eq_true, not_true_eq_false, and_true]
                  have hl1 : left - 1 = nI (n - (o + 1)) := by
                    rw [l3, show n - o = n - (o + 1) + 1 by omega, nI_pred]
                  rw [hl1]
                  by_cases hlast : o + 1 = n
                  · rw [show n - (o + 1) = 0 by omega]
                    refine K165e I1 C _ _ rfl (gv_C a1 (gc1 C.2.1 (fun k hk => (gC.2 k hk).1))) a2 (Or.inr rfl) ?_
                    intro H Lg d nc ns J Q hJ hq
                    refine r159 H Lg d nc ns J Q hJ (fun J1 hJ1 => ?_)
                    refine mj_blk rfl ?_
                    simp +decide only [mjs_0, mjs_1, mjs_2, mjs_3, mjs_ble, true_and, Bool.false_eq_true, if_false, if_true, Nat.reduceAdd, Nat.reduceSub, Nat.reduceLeDiff, false_implies, true_implies, not_false_eq_true, not_true_eq_false, and_true, mm_sh, hm, mjs_up_at, mjs_up_c, mjs_up_f, nI_1]
                    refine ⟨fun q => absurd q hxn, fun _ => mj_blk rfl ?_⟩
                    have ex : nI (o + 1) = x := by rw [l2, hlast]
                    simp +decide only [mjs_0, mjs_1, mjs_2, mjs_3, mjs_ble, true_and, Bool.false_eq_true, if_false, if_true, Nat.reduceAdd, Nat.reduceSub, Nat.reduceLeDiff, false_implies, true_implies, not_false_eq_true, not_true_eq_false, and_true, mm_sh, hm, mjs_up_at, mjs_up_c, mjs_up_f]
                    refine ⟨fun _ => mj_blk rfl ?_, fun q => absurd ex q⟩
                    simp +decide only [mjs_0, mjs_1, mjs_2, mjs_3, mjs_ble, true_and, Bool.false_eq_true, if_false, if_true, Nat.reduceAdd, Nat.reduceSub, Nat.reduceLeDiff, false_implies, true_implies, not_false_eq_true, not_true_eq_false, and_true, mm_sh, hm, mjs_up_at, mjs_up_c, mjs_up_f]
                    refine mj_blk rfl ?_
                    simp +decide only [mjs_0, mjs_1, mjs_2, mjs_3, mjs_ble, true_and, Bool.false_eq_true, if_false, if_true, Nat.reduceAdd, Nat.reduceSub, Nat.reduceLeDiff, false_implies, true_implies, not_false_eq_true, not_true_eq_false, and_true, mm_sh, hm, mjs_up_at, mjs_up_c, mjs_up_f]
                    refine mj_blk rfl ?_
                    simp +decide only [mjs_0, mjs_1, mjs_2, mjs_3, mjs_ble, true_and, Bool.false_eq_true, if_false, if_true, Nat.reduceAdd, Nat.reduceSub, Nat.reduceLeDiff, false_implies, true_implies, not_false_eq_true, not_true_eq_false, and_true, mm_sh, hm, mjs_up_at, mjs_up_c, mjs_up_f, nI_1]
                    refine mj_blk rfl ?_
                    simp +decide only [mjs_0, mjs_1, mjs_2, mjs_3, mjs_ble, true_and, Bool.false_eq_true, if_false, if_true, Nat.reduceAdd, Nat.reduceSub, Nat.reduceLeDiff, false_implies, true_implies, not_false_eq_true, not_true_eq_false, and_true, mm_sh, hm, mjs_up_at, mjs_up_c, mjs_up_f]
                    refine r198 _ _ _ _ _ _ 0 (o + 1) 0 _ ?_
                    unfold d_L
                    refine mj_blk rfl ?_
                    simp +decide only [mjs_0, mjs_1, mjs_2, mjs_3, mjs_ble, true_and, Bool.false_eq_true, if_false, if_true, Nat.reduceAdd, Nat.reduceSub, Nat.reduceLeDiff, false_implies, true_implies, not_false_eq_true, not_true_eq_false, and_true, mm_sh, hm, mjs_up_at, mjs_up_c, mjs_up_f]
                    refine mj_blk rfl ?_
                    simp +decide only [mjs_0, mjs_1, mjs_2, mjs_3, mjs_ble, true_and, Bool.false_eq_true, if_false, if_true, Nat.reduceAdd, Nat.reduceSub, Nat.reduceLeDiff, false_implies, true_implies, not_false_eq_true, not_true_eq_false, and_true, mm_sh, hm, mjs_up_at, mjs_up_c, mjs_up_f]
                    exact hq _ (rr_Cn hJ1 (by omega))
                  · refine K165 0 (o + 1) (nI (n - (o + 1))) _ (Or.inr ⟨n, l0, by omega, l2, rfl⟩) (by omega) (by omega) (fun H Lg d nc ns J Q hJ hq => r159 H Lg d nc ns J Q hJ (fun J1 hJ1 => ?_))
                    refine mj_blk rfl ?_
                    simp +decide only [mjs_0, mjs_1, mjs_2, mjs_3, mjs_ble, true_and, Bool.false_eq_true, if_false, if_true, Nat.reduceAdd, Nat.reduceSub, Nat.reduceLeDiff, false_implies, true_implies, not_false_eq_true, not_true_eq_false, and_true, mm_sh, hm, mjs_up_at, mjs_up_c, mjs_up_f, nI_1]
                    refine ⟨fun q => absurd q hxn, fun _ => mj_blk rfl ?_⟩
                    have ex : ¬ nI (o + 1) = x := by
                      rw [l2]
                      exact fun e => hlast ((nI_eq (by omega) l0).mp e)
                    simp +decide only [mjs_0, mjs_1, mjs_2, mjs_3, mjs_ble, true_and, Bool.false_eq_true, if_false, if_true, Nat.reduceAdd, Nat.reduceSub, Nat.reduceLeDiff, false_implies, true_implies, not_false_eq_true, not_true_eq_false, and_true, mm_sh, hm, mjs_up_at, mjs_up_c, mjs_up_f]
                    exact ⟨fun q => absurd q ex, fun _ => r177 _ _ _ _ _ _ _ _ (hq J1 hJ1)⟩
              · have e0 : C.2.2 j = 0 := tk_0 (by omega) (Decidable.not_not.mp q)
                simp +decide only [mjs_0, mjs_1, mjs_2, mjs_3, mjs_ble, true_and, Bool.false_eq_true, if_false, if_true, Nat.reduceAdd, Nat.reduceSub, Nat.reduceLeDiff, false_implies, true_implies, not_false_eq_true, not_true_eq_false, and_true, mc_sh, hr, mjs_up_at, mjs_up_c, mjs_up_f]
                refine c_80 s59_1 hr' ?_
                simp +decide only [mjs_0, mjs_1, mjs_2, mjs_3, mjs_ble, true_and, Bool.false_eq_true, if_false, if_true, Nat.reduceAdd, Nat.reduceSub, Nat.reduceLeDiff, false_implies, true_implies, not_false_eq_true, not_true_eq_false, and_true]
                refine hb.2 _ _ (rc_f a1 a2) ?_
                intro H Lg d nc ns J Q hJ hq
                refine r133 H Lg d nc ns J Q hJ (fun J1 hJ1 => ⟨fun _ => ?_, fun e => absurd e17 e⟩)
                have j56 : J1 56 j = 0 := by rw [((rr_d hJ1).2.2.2.2.2.2.1.2 j hj).2, e0]; rfl
                refine mj_blk rfl ?_
                simp +decide only [mjs_0, mjs_1, mjs_2, mjs_3, mjs_ble, true_and, Bool.false_eq_true, if_false, if_true, Nat.reduceAdd, Nat.reduceSub, Nat.reduceLeDiff, false_implies, true_implies, not_false_eq_true, not_true_eq_false, and_true, mm_sh, hm, mjs_up_at, mjs_up_c, mjs_up_f, ej, j56]
                refine ⟨nI_in (by omega) (by decide), mj_blk rfl ?_⟩
                simp +decide only [mjs_0, mjs_1, mjs_2, mjs_3, mjs_ble, true_and, Bool.false_eq_true, if_false, if_true, Nat.reduceAdd, Nat.reduceSub, Nat.reduceLeDiff, false_implies, true_implies, not_false_eq_true, not_true_eq_false, and_true, mm_sh, hm, mjs_up_at, mjs_up_c, mjs_up_f]
                refine c_106 s59_36 ?_
                rw [if_pos (rr_d hJ1).1.2.2.2]
                simp +decide only [mjs_0, mjs_1, mjs_2, mjs_3, mjs_ble, true_and, Bool.false_eq_true, if_false, if_true, Nat.reduceAdd, Nat.reduceSub, Nat.reduceLeDiff, false_implies, true_implies, not_false_eq_true, not_true_eq_false, and_true, mm_sh, hm, mjs_up_at, mjs_up_c, mjs_up_f]
                have hD := rr_f (f := 8) (by decide) (by decide) hJ1
                have hD2 : ∀ y, RD H (K, P1, E, N1, S, M, C, O, L1) (mj_up (mj_up J1 36 39 (nI 8)) 36 33 y) := fun y => rd_up hD (by decide)
                have end1 : ∀ (J2 : Nat → Nat → Int32) (w5 w6 : Option Value), RD H (K, P1, E, N1, S, M, C, O, L1) J2 → mj_rn X (mj_hd []) (mj_call X mj_P (mj_bi X) (d + 6)) mb_152 198 [some (.ref 36), some (.int (nI j)), some (.int x), some (.int (nI 0)), w5, some (.int 1), w6] [] (sh59, J2, Lg, Rf, nc, ns) Q := by
                  intro J2 w5 w6 hJ2
                  refine mj_blk rfl ?_
                  simp +decide only [mjs_0, mjs_1, mjs_2, mjs_3, mjs_ble, true_and, Bool.false_eq_true, if_false, if_true, Nat.reduceAdd, Nat.reduceSub, Nat.reduceLeDiff, false_implies, true_implies, not_false_eq_true, not_true_eq_false, and_true, mm_sh, hm, mjs_up_at, mjs_up_c, mjs_up_f]
                  refine mj_blk rfl ?_
                  simp +decide only [mjs_0, mjs_1, mjs_2, mjs_3, mjs_ble, true_and, Bool.false_eq_true, if_false, if_true, Nat.reduceAdd, Nat.reduceSub, Nat.reduceLeDiff, false_implies, true_implies, not_false_eq_true, not_true_eq_false, and_true, mm_sh, hm, mjs_up_at, mjs_up_c, mjs_up_f]
                  refine mj_blk rfl ?_
                  simp +decide only [mjs_0, mjs_1, mjs_2, mjs_3, mjs_ble, true_and, Bool.false_eq_true, if_false, if_true, Nat.reduceAdd, Nat.reduceSub, Nat.reduceLeDiff, false_implies, true_implies, not_false_eq_true, not_true_eq_false, and_true, mm_sh, hm, mjs_up_at, mjs_up_c, mjs_up_f]
                  refine f_117 s59_36 (rd_ne hJ2) (rd_nle hJ2) ?_
                  simp +decide only [mjs_0, mjs_1, mjs_2, mjs_3, mjs_ble, true_and, Bool.false_eq_true, if_false, if_true, Nat.reduceAdd, Nat.reduceSub, Nat.reduceLeDiff, false_implies, true_implies, not_false_eq_true, not_true_eq_false, and_true, mm_sh, hm, mjs_up_at, mjs_up_c, mjs_up_f]
                  refine ⟨fun q => absurd q (rd_nle hJ2), fun _ => mj_blk rfl ?_⟩
                  simp +decide only [mjs_0, mjs_1, mjs_2, mjs_3, mjs_ble, true_and, Bool.false_eq_true, if_false, if_true, Nat.reduceAdd, Nat.reduceSub, Nat.reduceLeDiff, false_implies, true_implies, not_false_eq_true, not_true_eq_false, and_true, mm_sh, hm, mjs_up_at, mjs_up_c, mjs_up_f]
                  exact hq J2 hJ2
                have end0 : ∀ (J2 : Nat → Nat → Int32) (w5 w6 : Option Value), RD H (K, P1, E, N1, S, M, C, O, L1) J2 → mj_rn X (mj_hd []) (mj_call X mj_P (mj_bi X) (d + 6)) mb_152 198 [some (.ref 36), some (.int (nI j)), some (.int x), some (.int (nI 0)), w5, some (.int 0), w6] [] (sh59, J2, Lg, Rf, nc, ns) Q := by
                  intro J2 w5 w6 hJ2
                  refine mj_blk rfl ?_
                  simp +decide only [mjs_0, mjs_1, mjs_2, mjs_3, mjs_ble, true_and, Bool.false_eq_true, if_false, if_true, Nat.reduceAdd, Nat.reduceSub, Nat.reduceLeDiff, false_implies, true_implies, not_false_eq_true, not_true_eq_false, and_true, mm_sh, hm, mjs_up_at, mjs_up_c, mjs_up_f]
                  refine mj_blk rfl ?_
                  simp +decide only [mjs_0, mjs_1, mjs_2, mjs_3, mjs_ble, true_and, Bool.false_eq_true, if_false, if_true, Nat.reduceAdd, Nat.reduceSub, Nat.reduceLeDiff, false_implies, true_implies, not_false_eq_true, not_true_eq_false, and_true, mm_sh, hm, mjs_up_at, mjs_up_c, mjs_up_f]
                  refine mj_blk rfl ?_
                  simp +decide only [mjs_0, mjs_1, mjs_2, mjs_3, mjs_ble, true_and, Bool.false_eq_true, if_false, if_true, Nat.reduceAdd, Nat.reduceSub, Nat.reduceLeDiff, false_implies, true_implies, not_false_eq_true, not_true_eq_false, and_true, mm_sh, hm, mjs_up_at, mjs_up_c, mjs_up_f]
                  exact hq J2 hJ2
                have K172 : ∀ (y : Int32) (w5 w6 : Option Value), mj_rn X (mj_hd []) (mj_call X mj_P (mj_bi X) (d + 6)) mb_152 172 [some (.ref 36), some (.int (nI j)), some (.int x), some (.int (nI 0)), some (.int y), w5, w6] [] (sh59, mj_up J1 36 39 (nI 8), Lg, Rf, nc, ns) Q := by
                  intro y w5 w6
                  refine mj_blk rfl ?_
                  simp +decide only [mjs_0, mjs_1, mjs_2, mjs_3, mjs_ble, true_and, Bool.false_eq_true, if_false, if_true, Nat.reduceAdd, Nat.reduceSub, Nat.reduceLeDiff, false_implies, true_implies, not_false_eq_true, not_true_eq_false, and_true, mm_sh, hm, mjs_up_at, mjs_up_c, mjs_up_f]
                  refine mj_blk rfl ?_
                  simp +decide only [mjs_0, mjs_1, mjs_2, mjs_3, mjs_ble, true_and, Bool.false_eq_true, if_false, if_true, Nat.reduceAdd, Nat.reduceSub, Nat.reduceLeDiff, false_implies, true_implies, not_false_eq_true, not_true_eq_false, and_true, mm_sh, hm, mjs_up_at, mjs_up_c, mjs_up_f]
                  refine mj_blk rfl ?_
                  simp +decide only [mjs_0, mjs_1, mjs_2, mjs_3, mjs_ble, true_and, Bool.false_eq_true, if_false, if_true, Nat.reduceAdd, Nat.reduceSub, Nat.reduceLeDiff, false_implies, true_implies, not_false_eq_true, not_true_eq_false, and_true, mm_sh, hm, mjs_up_at, mjs_up_c, mjs_up_f]
                  refine mj_blk rfl ?_
                  simp +decide only [mjs_0, mjs_1, mjs_2, mjs_3, mjs_ble, true_and, Bool.false_eq_true, if_false, if_true, Nat.reduceAdd, Nat.reduceSub, Nat.reduceLeDiff, false_implies, true_implies, not_false_eq_true, not_true_eq_false, and_true, mm_sh, hm, mjs_up_at, mjs_up_c, mjs_up_f]
                  exact end1 _ _ _ (hD2 _)
                refine mj_blk rfl ?_
                simp +decide only [mjs_0, mjs_1, mjs_2, mjs_3, mjs_ble, true_and, Bool.false_eq_true, if_false, if_true, Nat.reduceAdd, Nat.reduceSub, Nat.reduceLeDiff, false_implies, true_implies, not_false_eq_true, not_true_eq_false, and_true, mm_sh, hm, mjs_up_at, mjs_up_c, mjs_up_f, nI_1]
                refine ⟨fun _ => K172 _ _ _, fun _ => mj_blk rfl ?_⟩
                simp +decide only [mjs_0, mjs_1, mjs_2, mjs_3, mjs_ble, true_and, Bool.false_eq_true, if_false, if_true, Nat.reduceAdd, Nat.reduceSub, Nat.reduceLeDiff, false_implies, true_implies, not_false_eq_true, not_true_eq_false, and_true, mm_sh, hm, mjs_up_at, mjs_up_c, mjs_up_f]
                refine ⟨fun _ => mj_blk rfl ?_, fun _ => K172 _ _ _⟩
                simp +decide only [mjs_0, mjs_1, mjs_2, mjs_3, mjs_ble, true_and, Bool.false_eq_true, if_false, if_true, Nat.reduceAdd, Nat.reduceSub, Nat.reduceLeDiff, false_implies, true_implies, not_false_eq_true, not_true_eq_false, and_true, mm_sh, hm, mjs_up_at, mjs_up_c, mjs_up_f]
                refine mj_blk rfl ?_
                simp +decide only [mjs_0, mjs_1, mjs_2, mjs_3, mjs_ble, true_and, Bool.false_eq_true, if_false, if_true, Nat.reduceAdd, Nat.reduceSub, Nat.reduceLeDiff, false_implies, true_implies, not_false_eq_true, not_true_eq_false, and_true, mm_sh, hm, mjs_up_at, mjs_up_c, mjs_up_f]
                refine mj_blk rfl ?_
                simp +decide only [mjs_0, mjs_1, mjs_2, mjs_3, mjs_ble, true_and, Bool.false_eq_true, if_false, if_true, Nat.reduceAdd, Nat.reduceSub, Nat.reduceLeDiff, false_implies, true_implies, not_false_eq_true, not_true_eq_false, and_true, mm_sh, hm, mjs_up_at, mjs_up_c, mjs_up_f]
                refine mj_blk rfl ?_
                simp +decide only [mjs_0, mjs_1, mjs_2, mjs_3, mjs_ble, true_and, Bool.false_eq_true, if_false, if_true, Nat.reduceAdd, Nat.reduceSub, Nat.reduceLeDiff, false_implies, true_implies, not_false_eq_true, not_true_eq_false, and_true, mm_sh, hm, mjs_up_at, mjs_up_c, mjs_up_f]
                exact end0 _ _ _ (hD2 _)
          · -- else
            have e16 : gp S t = 16 := (nI_eq (by omega) (by decide)).mp (show nI (gp S t) = nI 16 from Decidable.not_not.mp q)
            simp +decide only [mjs_0, mjs_1, mjs_2, mjs_3, mjs_ble, true_and, Bool.false_eq_true, if_false, if_true, Nat.reduceAdd, Nat.reduceSub, Nat.reduceLeDiff, false_implies, true_implies, not_false_eq_true, not_true_eq_false, and_true, mc_sh, hr, mjs_up_at, mjs_up_c, mjs_up_f, ej]
            refine ⟨nI_in (by omega) (by decide), ?_⟩
            refine K165e _ (C.1, ud C.2.1 j 2, C.2.2) _ _ rfl (gv_C a1 (gc1 _ (fun k hk => ?_))) (rc_Cs (j := j) (s := 2) a2) (Or.inl rfl) ?_
            · by_cases e : k = j
              · rw [e, ud_at]
                exact Nat.le_refl 2
              · rw [ud_ne e]
                exact (gC.2 k hk).1
            · intro H Lg d nc ns J Q hJ hq
              refine r49 H Lg d nc ns J Q hn hJ (fun J1 hJ1 => ⟨fun e => absurd e n18, fun _ => ?_⟩)
              refine mj_blk rfl ?_
              simp +decide only [mjs_0, mjs_1, mjs_2, mjs_3, mjs_ble, true_and, Bool.false_eq_true, if_false, if_true, Nat.reduceAdd, Nat.reduceSub, Nat.reduceLeDiff, false_implies, true_implies, not_false_eq_true, not_true_eq_false, and_true, mm_sh, hm, mjs_up_at, mjs_up_c, mjs_up_f]
              refine mj_blk rfl ?_
              simp +decide only [mjs_0, mjs_1, mjs_2, mjs_3, mjs_ble, true_and, Bool.false_eq_true, if_false, if_true, Nat.reduceAdd, Nat.reduceSub, Nat.reduceLeDiff, false_implies, true_implies, not_false_eq_true, not_true_eq_false, and_true, mm_sh, hm, mjs_up_at, mjs_up_c, mjs_up_f]
              refine rq_126 (d := d + 2) (p := 16) (k := 15) hM' hJ1 a1 a7 (by decide) (by decide) (by decide) (fun _ => ?_) (fun hh => absurd e16 hh)
              simp +decide only [mjs_0, mjs_1, mjs_2, mjs_3, mjs_ble, true_and, Bool.false_eq_true, if_false, if_true, Nat.reduceAdd, Nat.reduceSub, Nat.reduceLeDiff, false_implies, true_implies, not_false_eq_true, not_true_eq_false, and_true, mm_sh, hm, mjs_up_at, mjs_up_c, mjs_up_f]
              refine mj_blk rfl ?_
              simp +decide only [mjs_0, mjs_1, mjs_2, mjs_3, mjs_ble, true_and, Bool.false_eq_true, if_false, if_true, Nat.reduceAdd, Nat.reduceSub, Nat.reduceLeDiff, false_implies, true_implies, not_false_eq_true, not_true_eq_false, and_true, mm_sh, hm, mjs_up_at, mjs_up_c, mjs_up_f, ej, nI_1]
              refine ⟨nI_in (by omega) (by decide), r198 _ _ _ _ _ _ 0 o 0 _ ?_⟩
              unfold d_L
              refine mj_blk rfl ?_
              simp +decide only [mjs_0, mjs_1, mjs_2, mjs_3, mjs_ble, true_and, Bool.false_eq_true, if_false, if_true, Nat.reduceAdd, Nat.reduceSub, Nat.reduceLeDiff, false_implies, true_implies, not_false_eq_true, not_true_eq_false, and_true, mm_sh, hm, mjs_up_at, mjs_up_c, mjs_up_f]
              refine mj_blk rfl ?_
              simp +decide only [mjs_0, mjs_1, mjs_2, mjs_3, mjs_ble, true_and, Bool.false_eq_true, if_false, if_true, Nat.reduceAdd, Nat.reduceSub, Nat.reduceLeDiff, false_implies, true_implies, not_false_eq_true, not_true_eq_false, and_true, mm_sh, hm, mjs_up_at, mjs_up_c, mjs_up_f]
              exact hq _ (rr_Cn (rr_Cs (j := j) (s := 2) hJ1) (by simp only; omega))
        · -- fi
          have e18 : gp S t = 18 := (nI_eq (by omega) (by decide)).mp (show nI (gp S t) = nI 18 from Decidable.not_not.mp q)
          simp +decide only [mjs_0, mjs_1, mjs_2, mjs_3, mjs_ble, true_and, Bool.false_eq_true, if_false, if_true, Nat.reduceAdd, Nat.reduceSub, Nat.reduceLeDiff, false_implies, true_implies, not_false_eq_true, not_true_eq_false, and_true, mc_sh, hr, mjs_up_at, mjs_up_c, mjs_up_f]
          have gc : gvC (j, C.2) := ⟨by simp only; omega, fun k hk => gC.2 k (by simp only at hk; omega)⟩
          refine hb.1 P1 N1 (j, C.2) L1 _ (gv_C a1 gc) (rc_Cn a2 (by omega)) hge (Or.inl rfl) ?_
          intro H Lg d nc ns J Q hJ hq
          refine r49 H Lg d nc ns J Q hn hJ (fun J1 hJ1 => ⟨fun _ => ?_, fun e => absurd e18 e⟩)
          refine mj_blk rfl ?_
          simp +decide only [mjs_0, mjs_1, mjs_2, mjs_3, mjs_ble, true_and, Bool.false_eq_true, if_false, if_true, Nat.reduceAdd, Nat.reduceSub, Nat.reduceLeDiff, false_implies, true_implies, not_false_eq_true, not_true_eq_false, and_true, mm_sh, hm, mjs_up_at, mjs_up_c, mjs_up_f]
          refine mj_blk rfl ?_
          simp +decide only [mjs_0, mjs_1, mjs_2, mjs_3, mjs_ble, true_and, Bool.false_eq_true, if_false, if_true, Nat.reduceAdd, Nat.reduceSub, Nat.reduceLeDiff, false_implies, true_implies, not_false_eq_true, not_true_eq_false, and_true, mm_sh, hm, mjs_up_at, mjs_up_c, mjs_up_f]
          refine mj_blk rfl ?_
          simp +decide only [mjs_0, mjs_1, mjs_2, mjs_3, mjs_ble, true_and, Bool.false_eq_true, if_false, if_true, Nat.reduceAdd, Nat.reduceSub, Nat.reduceLeDiff, false_implies, true_implies, not_false_eq_true, not_true_eq_false, and_true, mm_sh, hm, mjs_up_at, mjs_up_c, mjs_up_f]
          refine mj_blk rfl ?_
          simp +decide only [mjs_0, mjs_1, mjs_2, mjs_3, mjs_ble, true_and, Bool.false_eq_true, if_false, if_true, Nat.reduceAdd, Nat.reduceSub, Nat.reduceLeDiff, false_implies, true_implies, not_false_eq_true, not_true_eq_false, and_true, mm_sh, hm, mjs_up_at, mjs_up_c, mjs_up_f]
          refine mj_blk rfl ?_
          simp +decide only [mjs_0, mjs_1, mjs_2, mjs_3, mjs_ble, true_and, Bool.false_eq_true, if_false, if_true, Nat.reduceAdd, Nat.reduceSub, Nat.reduceLeDiff, false_implies, true_implies, not_false_eq_true, not_true_eq_false, and_true, mm_sh, hm, mjs_up_at, mjs_up_c, mjs_up_f]
          refine mj_blk rfl ?_
          simp +decide only [mjs_0, mjs_1, mjs_2, mjs_3, mjs_ble, true_and, Bool.false_eq_true, if_false, if_true, Nat.reduceAdd, Nat.reduceSub, Nat.reduceLeDiff, false_implies, true_implies, not_false_eq_true, not_true_eq_false, and_true, mm_sh, hm, mjs_up_at, mjs_up_c, mjs_up_f]
          refine mj_blk rfl ?_
          simp +decide only [mjs_0, mjs_1, mjs_2, mjs_3, mjs_ble, true_and, Bool.false_eq_true, if_false, if_true, Nat.reduceAdd, Nat.reduceSub, Nat.reduceLeDiff, false_implies, true_implies, not_false_eq_true, not_true_eq_false, and_true, mm_sh, hm, mjs_up_at, mjs_up_c, mjs_up_f]
          refine mj_blk rfl ?_
          simp +decide only [mjs_0, mjs_1, mjs_2, mjs_3, mjs_ble, true_and, Bool.false_eq_true, if_false, if_true, Nat.reduceAdd, Nat.reduceSub, Nat.reduceLeDiff, false_implies, true_implies, not_false_eq_true, not_true_eq_false, and_true, mm_sh, hm, mjs_up_at, mjs_up_c, mjs_up_f]
          exact hq _ (rr_Cn hJ1 (by omega))
    simp +decide only [mjs_0, mjs_1, mjs_2, mjs_3, mjs_ble, true_and, Bool.false_eq_true, if_false, if_true, Nat.reduceAdd, Nat.reduceSub, Nat.reduceLeDiff, false_implies, true_implies, not_false_eq_true, not_true_eq_false, and_true, mc_sh, hr, mjs_up_at, mjs_up_c, mjs_up_f]
    refine cq_97 hR a2 a1 a7 ?_
    simp +decide only [mjs_0, mjs_1, mjs_2, mjs_3, mjs_ble, true_and, Bool.false_eq_true, if_false, if_true, Nat.reduceAdd, Nat.reduceSub, Nat.reduceLeDiff, false_implies, true_implies, not_false_eq_true, not_true_eq_false, and_true]
    refine ⟨fun q => K70 (fun hh => ?_), fun q => mj_blk rfl ?_⟩
    · have := (nI_ltI (a := gp S t) (b := 8) (by omega) (by decide)).mp q
      omega
    · have h8 : 8 ≤ gp S t := by
        by_cases hh : gp S t < 8
        · exact absurd (show nI (gp S t) < nI 8 from nI_lt hh (by decide)) q
        · omega
      simp +decide only [mjs_0, mjs_1, mjs_2, mjs_3, mjs_ble, true_and, Bool.false_eq_true, if_false, if_true, Nat.reduceAdd, Nat.reduceSub, Nat.reduceLeDiff, false_implies, true_implies, not_false_eq_true, not_true_eq_false, and_true]
      refine ⟨fun q2 => K70 (fun hh => ?_), fun q2 => mj_blk rfl ?_⟩
      · have := (nI_ltI (a := 15) (b := gp S t) (by decide) (by omega)).mp q2
        omega
      · have h15 : gp S t ≤ 15 := by
          by_cases hh : 15 < gp S t
          · exact absurd (show nI 15 < nI (gp S t) from nI_lt hh (by omega)) q2
          · omega
        simp +decide only [mjs_0, mjs_1, mjs_2, mjs_3, mjs_ble, true_and, Bool.false_eq_true, if_false, if_true, Nat.reduceAdd, Nat.reduceSub, Nat.reduceLeDiff, false_implies, true_implies, not_false_eq_true, not_true_eq_false, and_true, nI_1]
        refine K165 (w + 1) o left _ hl (by omega) (by omega) (fun H Lg d nc ns J Q hJ hq => r34 H Lg d nc ns J Q hJ (fun J1 hJ1 => ?_))
        refine mj_blk rfl ?_
        simp +decide only [mjs_0, mjs_1, mjs_2, mjs_3, mjs_ble, true_and, Bool.false_eq_true, if_false, if_true, Nat.reduceAdd, Nat.reduceSub, Nat.reduceLeDiff, false_implies, true_implies, not_false_eq_true, not_true_eq_false, and_true, mm_sh, hm, mjs_up_at, mjs_up_c, mjs_up_f]
        refine rq_151 (d := d + 2) hM' hJ1 a1 a7 (fun _ => ?_) (fun hh => absurd ⟨h8, h15⟩ hh)
        simp +decide only [mjs_0, mjs_1, mjs_2, mjs_3, mjs_ble, true_and, Bool.false_eq_true, if_false, if_true, Nat.reduceAdd, Nat.reduceSub, Nat.reduceLeDiff, false_implies, true_implies, not_false_eq_true, not_true_eq_false, and_true, mm_sh, hm, mjs_up_at, mjs_up_c, mjs_up_f]
        refine mj_blk rfl ?_
        simp +decide only [mjs_0, mjs_1, mjs_2, mjs_3, mjs_ble, true_and, Bool.false_eq_true, if_false, if_true, Nat.reduceAdd, Nat.reduceSub, Nat.reduceLeDiff, false_implies, true_implies, not_false_eq_true, not_true_eq_false, and_true, mm_sh, hm, mjs_up_at, mjs_up_c, mjs_up_f, nI_1]
        exact r198 _ _ _ _ _ _ _ _ _ _ (hq J1 hJ1)
  · simp +decide only [mjs_0, mjs_1, mjs_2, mjs_3, mjs_ble, true_and, Bool.false_eq_true, if_false, if_true, Nat.reduceAdd, Nat.reduceSub, Nat.reduceLeDiff, false_implies, true_implies, not_false_eq_true, not_true_eq_false, and_true]
    refine hb.2 g' I' a1 ?_
    intro H Lg d nc ns J Q hJ hq
    unfold d_L
    refine mj_blk rfl ?_
    simp +decide only [mjs_0, mjs_1, mjs_2, mjs_3, mjs_ble, true_and, Bool.false_eq_true, if_false, if_true, Nat.reduceAdd, Nat.reduceSub, Nat.reduceLeDiff, false_implies, true_implies, not_false_eq_true, not_true_eq_false, and_true, mm_sh, hm, mjs_up_at, mjs_up_c, mjs_up_f]
    refine mj_blk rfl ?_
    simp +decide only [mjs_0, mjs_1, mjs_2, mjs_3, mjs_ble, true_and, Bool.false_eq_true, if_false, if_true, Nat.reduceAdd, Nat.reduceSub, Nat.reduceLeDiff, false_implies, true_implies, not_false_eq_true, not_true_eq_false, and_true, mm_sh, hm, mjs_up_at, mjs_up_c, mjs_up_f]
    refine a2 H Lg d nc ns J _ hJ (fun J' hJ' => ?_)
    simp +decide only [mjs_0, mjs_1, mjs_2, mjs_3, mjs_ble, true_and, Bool.false_eq_true, if_false, if_true, Nat.reduceAdd, Nat.reduceSub, Nat.reduceLeDiff, false_implies, true_implies, not_false_eq_true, not_true_eq_false, and_true, mm_sh, hm, mjs_up_at, mjs_up_c, mjs_up_f]
    refine ⟨fun q => absurd q (rd_nle hJ'), fun _ => mj_blk rfl ?_⟩
    simp +decide only [mjs_0, mjs_1, mjs_2, mjs_3, mjs_ble, true_and, Bool.false_eq_true, if_false, if_true, Nat.reduceAdd, Nat.reduceSub, Nat.reduceLeDiff, false_implies, true_implies, not_false_eq_true, not_true_eq_false, and_true, mm_sh, hm, mjs_up_at, mjs_up_c, mjs_up_f]
    exact hq J' hJ'
theorem p_19l (hR : mj_Rt mp_R Rf) (hM' : mj_Rt mm_R Rf) (hr' : nc + 1 ≤ X.2.2.1 ∧ ns + 6 ≤ X.2.2.2) (hj : j < C.1) : ∀ (m w o i : Nat) (left : Int32) (P : List Nat) (N : sgN) (L : sgL) (I : Nat → Nat → Int32), P.length + tl L ≤ m → P.length ≤ 10000 → i + m ≤ 20000 → w ≤ 100 + i → o ≤ i → lr x left o → gv (K, P, E, N, S, M, C, O, L) → RC fb vb (K, P, E, N, S, M, C, O, L) I → d_Q X Rf fb vb K E S M C O j x P N L w o nc ns Lg Q → mj_rn X (mj_hd []) (mj_call X mj_P (mj_bi X) (d + 3)) mb_19 22 [some (.ref 25), some (.int (nI j)), some (.int x), some (.int left), some (.int (nI w)), some (.int (nI i)), none] [] (sh59, I, Lg, Rf, nc, ns) Q := by
  intro m
  induction m with
  | zero =>
    intro w o i left P N L I h1 h2 h3 h4 h5 hl hv h hb
    exact p_19s hR hM' hr' hj hl h4 h5 (by omega) h2 hv h hb (fun w' o' left' P1 N1 L1 I1 t1 => absurd t1 (by omega))
  | succ m ih =>
    intro w o i left P N L I h1 h2 h3 h4 h5 hl hv h hb
    exact p_19s hR hM' hr' hj hl h4 h5 (by omega) h2 hv h hb (fun w' o' left' P1 N1 L1 I1 t1 t2 t3 t4 t5 t6 t7 t8 => ih w' o' (i + 1) left' P1 N1 L1 I1 (by omega) t2 (by omega) t4 t5 t3 t6 t7 t8)
end MJDE
