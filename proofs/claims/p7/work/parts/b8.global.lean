/-! PREFIXED and ASSIGN as a whole, in both -/
section MJGL
variable {X : mj_X} {d nc ns : Nat} {Q : mj_Q} {I I' J J' H : Nat → Nat → Int32} {Lg : Nat → Nat → Int64} {Rf : Nat → Nat → Option Nat} {fb fb' : Nat → Nat → Int32} {vb : Nat → Int32} {K K' K'' : Nat × Nat × Nat} {P P' P'' : List Nat} {E : sgE} {N N' N'' : sgN} {S S' S'' : sgS} {M : sgM} {C C' C'' : sgC} {O : sgO} {L L' L'' : sgL} {t n kc kr c gl : Nat} {g g' : sg}
theorem f_170 (hM' : mj_Rt mm_R Rf) {D : Nat} (hJ : RD H g' J) (hq : Q (.inl none) (sh59, J, Lg, Rf, nc, ns)) : mj_rn X (mj_hd []) (mj_call X mj_P (mj_bi X) (D + 9)) mb_170 21 [some (.ref 36), none, some (.int (-1))] [] (sh59, J, Lg, Rf, nc, ns) Q := by
  have hm := mm_rf hM'
  refine mj_blk rfl ?_
  simp +decide only [mjs_0, mjs_1, mjs_2, mjs_3, mjs_ble, true_and, Bool.false_eq_true, if_false, if_true, Nat.reduceAdd, Nat.reduceSub, Nat.reduceLeDiff, false_implies, true_implies, not_false_eq_true, not_true_eq_false, and_true, mm_sh, hm, mjs_up_at, mjs_up_c, mjs_up_f]
  refine r_121e ?_
  simp +decide only [mjs_0, mjs_1, mjs_2, mjs_3, mjs_ble, true_and, Bool.false_eq_true, if_false, if_true, Nat.reduceAdd, Nat.reduceSub, Nat.reduceLeDiff, false_implies, true_implies, not_false_eq_true, not_true_eq_false, and_true, mm_sh, hm, mjs_up_at, mjs_up_c, mjs_up_f]
  refine mj_blk rfl ?_
  simp +decide only [mjs_0, mjs_1, mjs_2, mjs_3, mjs_ble, true_and, Bool.false_eq_true, if_false, if_true, Nat.reduceAdd, Nat.reduceSub, Nat.reduceLeDiff, false_implies, true_implies, not_false_eq_true, not_true_eq_false, and_true, mm_sh, hm, mjs_up_at, mjs_up_c, mjs_up_f]
  refine r_126e ?_
  simp +decide only [mjs_0, mjs_1, mjs_2, mjs_3, mjs_ble, true_and, Bool.false_eq_true, if_false, if_true, Nat.reduceAdd, Nat.reduceSub, Nat.reduceLeDiff, false_implies, true_implies, not_false_eq_true, not_true_eq_false, and_true, mm_sh, hm, mjs_up_at, mjs_up_c, mjs_up_f]
  refine mj_blk rfl ?_
  simp +decide only [mjs_0, mjs_1, mjs_2, mjs_3, mjs_ble, true_and, Bool.false_eq_true, if_false, if_true, Nat.reduceAdd, Nat.reduceSub, Nat.reduceLeDiff, false_implies, true_implies, not_false_eq_true, not_true_eq_false, and_true, mm_sh, hm, mjs_up_at, mjs_up_c, mjs_up_f]
  refine ⟨fun q => absurd q (rd_nle hJ), fun _ => mj_blk rfl ?_⟩
  simp +decide only [mjs_0, mjs_1, mjs_2, mjs_3, mjs_ble, true_and, Bool.false_eq_true, if_false, if_true, Nat.reduceAdd, Nat.reduceSub, Nat.reduceLeDiff, false_implies, true_implies, not_false_eq_true, not_true_eq_false, and_true, mm_sh, hm, mjs_up_at, mjs_up_c, mjs_up_f]
  refine mj_blk rfl ?_
  simp +decide only [mjs_0, mjs_1, mjs_2, mjs_3, mjs_ble, true_and, Bool.false_eq_true, if_false, if_true, Nat.reduceAdd, Nat.reduceSub, Nat.reduceLeDiff, false_implies, true_implies, not_false_eq_true, not_true_eq_false, and_true, mm_sh, hm, mjs_up_at, mjs_up_c, mjs_up_f]
  refine mj_blk rfl ?_
  simp +decide only [mjs_0, mjs_1, mjs_2, mjs_3, mjs_ble, true_and, Bool.false_eq_true, if_false, if_true, Nat.reduceAdd, Nat.reduceSub, Nat.reduceLeDiff, false_implies, true_implies, not_false_eq_true, not_true_eq_false, and_true, mm_sh, hm, mjs_up_at, mjs_up_c, mjs_up_f]
  refine mj_blk rfl ?_
  simp +decide only [mjs_0, mjs_1, mjs_2, mjs_3, mjs_ble, true_and, Bool.false_eq_true, if_false, if_true, Nat.reduceAdd, Nat.reduceSub, Nat.reduceLeDiff, false_implies, true_implies, not_false_eq_true, not_true_eq_false, and_true, mm_sh, hm, mjs_up_at, mjs_up_c, mjs_up_f]
  refine ⟨fun q => absurd q (rd_nle hJ), fun _ => mj_blk rfl ?_⟩
  simp +decide only [mjs_0, mjs_1, mjs_2, mjs_3, mjs_ble, true_and, Bool.false_eq_true, if_false, if_true, Nat.reduceAdd, Nat.reduceSub, Nat.reduceLeDiff, false_implies, true_implies, not_false_eq_true, not_true_eq_false, and_true, mm_sh, hm, mjs_up_at, mjs_up_c, mjs_up_f]
  exact hq
theorem p_63 (hR : mj_Rt mp_R Rf) (hM' : mj_Rt mm_R Rf) (hX : XD X Rf vb kc kr n) (h12 : 12 ≤ kr) {D : Nat} (hD : kc + 6 ≤ D) (hn : K.2.2 + n = 40) (hr' : nc + 1 ≤ X.2.2.1 ∧ ns + 6 ≤ X.2.2.2) (hv : gv (K, P, E, N, S, M, C, O, L)) (hw : gw K S) (hp : P.length ≤ 10000) (h : RC fb vb (K, P, E, N, S, M, C, O, L) I)
    (hQ1 : ∀ fb' K' P' N' S' C' L' I' c, gv (K', P', E, N', S', M, C', O, L') → RC fb' vb (K', P', E, N', S', M, C', O, L') I' → P'.length ≤ 9999 → xs K P N S C L K' P' N' S' C' L' → 25 ≤ c ∧ c ≤ 35 → RM X Rf mb_170 (kr + 9) 0 [some (.ref 36), none, none] [] (K, P, E, N, S, M, C, O, L) na 101 [some (.ref 36), some (.int (nI (c - 2))), none] [] (K', P', E, N', S', M, C', O, L') na → Q (.inl (some (.int (nI c)))) (sh59, I', Lg, Rf, nc, ns))
    (hQ3 : ∀ fb g' I', RCf fb vb g' I' → RMf X Rf mb_170 (kr + 9) 0 [some (.ref 36), none, none] [] (K, P, E, N, S, M, C, O, L) na none g' → Q (.inr 500) (sh59, I', Lg, Rf, nc + 1, ns + 6)) :
    mj_call X mj_P (mj_bi X) D 63 [.ref 34] (sh59, I, Lg, Rf, nc, ns) Q := by
  have hr := mc_rf hR
  have hm := mm_rf hM'
  obtain ⟨d, rfl⟩ : ∃ d, D = d + 6 := ⟨D - 6, by omega⟩
  have k5 := (rc_d h).1.2.2.2
  have hmu0 := mu_le (K := K) (P := P) (L := L) k5.2.1 hp (tl_le (gv_d hv).2.2.2.2.2.2.2)
  have loop : ∀ (m i code : Nat) (fb' : Nat → Nat → Int32) (K' : Nat × Nat × Nat) (P' : List Nat) (N' : sgN) (S' : sgS) (C' : sgC) (L' : sgL) (I' : Nat → Nat → Int32), mu K' P' L' ≤ m → i + m ≤ 700000000 → (code = 36 ∨ code = 19) → gv (K', P', E, N', S', M, C', O, L') → RC fb' vb (K', P', E, N', S', M, C', O, L') I' → P'.length ≤ 10000 → xs K P N S C L K' P' N' S' C' L' → (code = 36 → RM X Rf mb_170 (kr + 9) 0 [some (.ref 36), none, none] [] (K, P, E, N, S, M, C, O, L) na 3 [some (.ref 36), some (.int 34), none] [] (K', P', E, N', S', M, C', O, L') na) → (code = 19 → RM X Rf mb_170 (kr + 9) 0 [some (.ref 36), none, none] [] (K, P, E, N, S, M, C, O, L) na 40 [some (.ref 36), none, none] [] (K', P', E, N', S', M, C', O, L') na) → mj_rn X (mj_hd []) (mj_call X mj_P (mj_bi X) (d + 5)) mb_63 5 [some (.ref 34), some (.int (nI code)), some (.int (nI i))] [] (sh59, I', Lg, Rf, nc, ns) Q := by
    intro m
    induction m using Nat.strongRecOn with
    | ind m ih =>
      intro i code fb' K' P' N' S' C' L' I' b1 b2 b3 hv' h' hp' hx hM1 hM2
      have hgw := gw_xs hw hx
      have hK2 := hx.2.1.2
      have h0s : ∀ (g' : sg) (x : Int32), RX X Rf (kr + 1) 130 [.ref 36] (K', P', E, N', S', M, C', O, L') na (some (.int x)) g' na → RM X Rf mb_170 (kr + 9) 0 [some (.ref 36), none, none] [] (K, P, E, N, S, M, C, O, L) na 21 [some (.ref 36), none, some (.int x)] [] g' na := by
        intro g' x a8
        rcases b3 with rfl | rfl
        · refine rm_tr (hM1 rfl) ?_
          intro H Lg d nc ns J Q hJ hA hq
          obtain ⟨D, hD, hDk⟩ : ∃ D, d + (kr + 9) = D + 9 ∧ kr ≤ D := ⟨d + kr, by omega, by omega⟩
          rw [hD]
          try rw [hD] at hq
          refine mj_blk rfl ?_
          simp +decide only [mjs_0, mjs_1, mjs_2, mjs_3, mjs_ble, true_and, Bool.false_eq_true, if_false, if_true, Nat.reduceAdd, Nat.reduceSub, Nat.reduceLeDiff, false_implies, true_implies, not_false_eq_true, not_true_eq_false, and_true, mm_sh, hm, mjs_up_at, mjs_up_c, mjs_up_f]
          refine mj_blk rfl ?_
          simp +decide only [mjs_0, mjs_1, mjs_2, mjs_3, mjs_ble, true_and, Bool.false_eq_true, if_false, if_true, Nat.reduceAdd, Nat.reduceSub, Nat.reduceLeDiff, false_implies, true_implies, not_false_eq_true, not_true_eq_false, and_true, mm_sh, hm, mjs_up_at, mjs_up_c, mjs_up_f, (rr_d hJ).1.2.2.2]
          refine mj_blk rfl ?_
          simp +decide only [mjs_0, mjs_1, mjs_2, mjs_3, mjs_ble, true_and, Bool.false_eq_true, if_false, if_true, Nat.reduceAdd, Nat.reduceSub, Nat.reduceLeDiff, false_implies, true_implies, not_false_eq_true, not_true_eq_false, and_true, mm_sh, hm, mjs_up_at, mjs_up_c, mjs_up_f]
          refine rx_at a8 (by omega) hJ trivial (fun H1 J1 c1 c2 _ => ?_)
          simp +decide only [mjs_0, mjs_1, mjs_2, mjs_3, mjs_ble, true_and, Bool.false_eq_true, if_false, if_true, Nat.reduceAdd, Nat.reduceSub, Nat.reduceLeDiff, false_implies, true_implies, not_false_eq_true, not_true_eq_false, and_true, mm_sh, hm, mjs_up_at, mjs_up_c, mjs_up_f]
          exact mj_nv (hq H1 J1 c1 c2 trivial)
        · refine rm_tr (hM2 rfl) ?_
          intro H Lg d nc ns J Q hJ hA hq
          obtain ⟨D, hD, hDk⟩ : ∃ D, d + (kr + 9) = D + 9 ∧ kr ≤ D := ⟨d + kr, by omega, by omega⟩
          rw [hD]
          try rw [hD] at hq
          refine mj_blk rfl ?_
          simp +decide only [mjs_0, mjs_1, mjs_2, mjs_3, mjs_ble, true_and, Bool.false_eq_true, if_false, if_true, Nat.reduceAdd, Nat.reduceSub, Nat.reduceLeDiff, false_implies, true_implies, not_false_eq_true, not_true_eq_false, and_true, mm_sh, hm, mjs_up_at, mjs_up_c, mjs_up_f]
          refine rx_at a8 (by omega) hJ trivial (fun H1 J1 c1 c2 _ => ?_)
          simp +decide only [mjs_0, mjs_1, mjs_2, mjs_3, mjs_ble, true_and, Bool.false_eq_true, if_false, if_true, Nat.reduceAdd, Nat.reduceSub, Nat.reduceLeDiff, false_implies, true_implies, not_false_eq_true, not_true_eq_false, and_true, mm_sh, hm, mjs_up_at, mjs_up_c, mjs_up_f]
          exact mj_nv (hq H1 J1 c1 c2 trivial)
      have h0f : ∀ (g' : sg), RY X Rf (kr + 1) 130 [.ref 36] (K', P', E, N', S', M, C', O, L') na (some (.int (-1))) g' → RMf X Rf mb_170 (kr + 9) 0 [some (.ref 36), none, none] [] (K, P, E, N, S, M, C, O, L) na none g' := by
        intro g' a8
        rcases b3 with rfl | rfl
        · refine rm_f (hM1 rfl) ?_
          intro H Lg d nc ns J Q hJ hA hq
          obtain ⟨D, hD, hDk⟩ : ∃ D, d + (kr + 9) = D + 9 ∧ kr ≤ D := ⟨d + kr, by omega, by omega⟩
          rw [hD]
          try rw [hD] at hq
          refine mj_blk rfl ?_
          simp +decide only [mjs_0, mjs_1, mjs_2, mjs_3, mjs_ble, true_and, Bool.false_eq_true, if_false, if_true, Nat.reduceAdd, Nat.reduceSub, Nat.reduceLeDiff, false_implies, true_implies, not_false_eq_true, not_true_eq_false, and_true, mm_sh, hm, mjs_up_at, mjs_up_c, mjs_up_f]
          refine mj_blk rfl ?_
          simp +decide only [mjs_0, mjs_1, mjs_2, mjs_3, mjs_ble, true_and, Bool.false_eq_true, if_false, if_true, Nat.reduceAdd, Nat.reduceSub, Nat.reduceLeDiff, false_implies, true_implies, not_false_eq_true, not_true_eq_false, and_true, mm_sh, hm, mjs_up_at, mjs_up_c, mjs_up_f, (rr_d hJ).1.2.2.2]
          refine mj_blk rfl ?_
          simp +decide only [mjs_0, mjs_1, mjs_2, mjs_3, mjs_ble, true_and, Bool.false_eq_true, if_false, if_true, Nat.reduceAdd, Nat.reduceSub, Nat.reduceLeDiff, false_implies, true_implies, not_false_eq_true, not_true_eq_false, and_true, mm_sh, hm, mjs_up_at, mjs_up_c, mjs_up_f]
          refine ry_at a8 (by omega) hJ trivial (fun J1 c1 => ?_)
          simp +decide only [mjs_0, mjs_1, mjs_2, mjs_3, mjs_ble, true_and, Bool.false_eq_true, if_false, if_true, Nat.reduceAdd, Nat.reduceSub, Nat.reduceLeDiff, false_implies, true_implies, not_false_eq_true, not_true_eq_false, and_true, mm_sh, hm, mjs_up_at, mjs_up_c, mjs_up_f]
          exact mj_nv (f_170 hM' c1 (hq J1 c1))
        · refine rm_f (hM2 rfl) ?_
          intro H Lg d nc ns J Q hJ hA hq
          obtain ⟨D, hD, hDk⟩ : ∃ D, d + (kr + 9) = D + 9 ∧ kr ≤ D := ⟨d + kr, by omega, by omega⟩
          rw [hD]
          try rw [hD] at hq
          refine mj_blk rfl ?_
          simp +decide only [mjs_0, mjs_1, mjs_2, mjs_3, mjs_ble, true_and, Bool.false_eq_true, if_false, if_true, Nat.reduceAdd, Nat.reduceSub, Nat.reduceLeDiff, false_implies, true_implies, not_false_eq_true, not_true_eq_false, and_true, mm_sh, hm, mjs_up_at, mjs_up_c, mjs_up_f]
          refine ry_at a8 (by omega) hJ trivial (fun J1 c1 => ?_)
          simp +decide only [mjs_0, mjs_1, mjs_2, mjs_3, mjs_ble, true_and, Bool.false_eq_true, if_false, if_true, Nat.reduceAdd, Nat.reduceSub, Nat.reduceLeDiff, false_implies, true_implies, not_false_eq_true, not_true_eq_false, and_true, mm_sh, hm, mjs_up_at, mjs_up_c, mjs_up_f]
          exact mj_nv (f_170 hM' c1 (hq J1 c1))
      have K23 : mj_rn X (mj_hd []) (mj_call X mj_P (mj_bi X) (d + 5)) mb_63 23 [some (.ref 34), none, some (.int (nI i))] [] (sh59, I', Lg, Rf, nc, ns) Q := by
        refine mj_blk rfl ?_
        simp +decide only [mjs_0, mjs_1, mjs_2, mjs_3, mjs_ble, true_and, Bool.false_eq_true, if_false, if_true, Nat.reduceAdd, Nat.reduceSub, Nat.reduceLeDiff, false_implies, true_implies, not_false_eq_true, not_true_eq_false, and_true, mc_sh, hr, mjs_up_at, mjs_up_c, mjs_up_f]
        refine p_23n (T := mb_170) (k := kr + 9) (p := 21) (lv := fun x => [some (.ref 36), none, some (.int x)]) (pc0 := 0) (lv0 := [some (.ref 36), none, none]) (o := none) (g0 := (K, P, E, N, S, M, C, O, L)) hR hX ?_ ?_ (by omega) (by rw [hK2]; exact hn) hr' hv' hgw hp' h' h0s h0f (fun fb2 K2 P2 N2 S2 C2 L2 I2 t a1 a2 a3 a4 a5 a6 a7 a8 a9 => ?_) (fun g2 I2 a1 a2 => ?_)
        · intro g g' k' t x e1 e2 ht e a8
          intro H Lg d nc ns J Q hJ hA hq
          obtain ⟨D, hD, hDk⟩ : ∃ D, d + (kr + 9) = D + 9 ∧ kr ≤ D := ⟨d + kr, by omega, by omega⟩
          rw [hD]
          try rw [hD] at hq
          refine mj_blk rfl ?_
          simp +decide only [mjs_0, mjs_1, mjs_2, mjs_3, mjs_ble, true_and, Bool.false_eq_true, if_false, if_true, Nat.reduceAdd, Nat.reduceSub, Nat.reduceLeDiff, false_implies, true_implies, not_false_eq_true, not_true_eq_false, and_true, mm_sh, hm, mjs_up_at, mjs_up_c, mjs_up_f]
          refine rq_121 (c := 10) e1 e2 ht (by decide) (fun _ => ?_) (fun e1 => absurd ((cg_10 ht).mp e) e1)
          simp +decide only [mjs_0, mjs_1, mjs_2, mjs_3, mjs_ble, true_and, Bool.false_eq_true, if_false, if_true, Nat.reduceAdd, Nat.reduceSub, Nat.reduceLeDiff, false_implies, true_implies, not_false_eq_true, not_true_eq_false, and_true, mm_sh, hm, mjs_up_at, mjs_up_c, mjs_up_f]
          refine mj_blk rfl ?_
          simp +decide only [mjs_0, mjs_1, mjs_2, mjs_3, mjs_ble, true_and, Bool.false_eq_true, if_false, if_true, Nat.reduceAdd, Nat.reduceSub, Nat.reduceLeDiff, false_implies, true_implies, not_false_eq_true, not_true_eq_false, and_true, mm_sh, hm, mjs_up_at, mjs_up_c, mjs_up_f]
          refine rx_at a8 (by omega) hJ trivial (fun H1 J1 c1 c2 _ => ?_)
          simp +decide only [mjs_0, mjs_1, mjs_2, mjs_3, mjs_ble, true_and, Bool.false_eq_true, if_false, if_true, Nat.reduceAdd, Nat.reduceSub, Nat.reduceLeDiff, false_implies, true_implies, not_false_eq_true, not_true_eq_false, and_true, mm_sh, hm, mjs_up_at, mjs_up_c, mjs_up_f]
          exact mj_nv (hq H1 J1 c1 c2 trivial)
        · intro g g' k' t e1 e2 ht e a8
          intro H Lg d nc ns J Q hJ hA hq
          obtain ⟨D, hD, hDk⟩ : ∃ D, d + (kr + 9) = D + 9 ∧ kr ≤ D := ⟨d + kr, by omega, by omega⟩
          rw [hD]
          try rw [hD] at hq
          refine mj_blk rfl ?_
          simp +decide only [mjs_0, mjs_1, mjs_2, mjs_3, mjs_ble, true_and, Bool.false_eq_true, if_false, if_true, Nat.reduceAdd, Nat.reduceSub, Nat.reduceLeDiff, false_implies, true_implies, not_false_eq_true, not_true_eq_false, and_true, mm_sh, hm, mjs_up_at, mjs_up_c, mjs_up_f]
          refine rq_121 (c := 10) e1 e2 ht (by decide) (fun _ => ?_) (fun e1 => absurd ((cg_10 ht).mp e) e1)
          simp +decide only [mjs_0, mjs_1, mjs_2, mjs_3, mjs_ble, true_and, Bool.false_eq_true, if_false, if_true, Nat.reduceAdd, Nat.reduceSub, Nat.reduceLeDiff, false_implies, true_implies, not_false_eq_true, not_true_eq_false, and_true, mm_sh, hm, mjs_up_at, mjs_up_c, mjs_up_f]
          refine mj_blk rfl ?_
          simp +decide only [mjs_0, mjs_1, mjs_2, mjs_3, mjs_ble, true_and, Bool.false_eq_true, if_false, if_true, Nat.reduceAdd, Nat.reduceSub, Nat.reduceLeDiff, false_implies, true_implies, not_false_eq_true, not_true_eq_false, and_true, mm_sh, hm, mjs_up_at, mjs_up_c, mjs_up_f]
          refine ry_at a8 (by omega) hJ trivial (fun J1 c1 => ?_)
          simp +decide only [mjs_0, mjs_1, mjs_2, mjs_3, mjs_ble, true_and, Bool.false_eq_true, if_false, if_true, Nat.reduceAdd, Nat.reduceSub, Nat.reduceLeDiff, false_implies, true_implies, not_false_eq_true, not_true_eq_false, and_true, mm_sh, hm, mjs_up_at, mjs_up_c, mjs_up_f]
          exact mj_nv (f_170 hM' c1 (hq J1 c1))
        · have hk : N2.2.2 ≤ 1036 := (gv_d a1).2.2.1.2.1
          have hk1 : 36 ≤ N2.2.2 := (gv_d a1).2.2.1.1
          have hgp := gp_le a1 a6
          have hx2 := xs_tr hx a4
          simp +decide only [mjs_0, mjs_1, mjs_2, mjs_3, mjs_ble, true_and, Bool.false_eq_true, if_false, if_true, Nat.reduceAdd, Nat.reduceSub, Nat.reduceLeDiff, false_implies, true_implies, not_false_eq_true, not_true_eq_false, and_true, mc_sh, hr, mjs_up_at, mjs_up_c, mjs_up_f]
          refine cq_97 hR a2 a1 a6 ?_
          simp +decide only [mjs_0, mjs_1, mjs_2, mjs_3, mjs_ble, true_and, Bool.false_eq_true, if_false, if_true, Nat.reduceAdd, Nat.reduceSub, Nat.reduceLeDiff, false_implies, true_implies, not_false_eq_true, not_true_eq_false, and_true, nI_1]
          have r30 : RM X Rf mb_170 (kr + 9) 0 [some (.ref 36), none, none] [] (K, P, E, N, S, M, C, O, L) na 30 [some (.ref 36), none, some (.int (nI (rt t)))] [] (K2, P2, E, N2, S2, M, C2, O, L2) na := by
            refine rm_tr a9 ?_
            intro H Lg d nc ns J Q hJ hA hq
            obtain ⟨D, hD, hDk⟩ : ∃ D, d + (kr + 9) = D + 9 ∧ kr ≤ D := ⟨d + kr, by omega, by omega⟩
            rw [hD]
            try rw [hD] at hq
            refine mj_blk rfl ?_
            simp +decide only [mjs_0, mjs_1, mjs_2, mjs_3, mjs_ble, true_and, Bool.false_eq_true, if_false, if_true, Nat.reduceAdd, Nat.reduceSub, Nat.reduceLeDiff, false_implies, true_implies, not_false_eq_true, not_true_eq_false, and_true, mm_sh, hm, mjs_up_at, mjs_up_c, mjs_up_f]
            refine rq_121 (c := 10) hk hk1 a6 (by decide) (fun e1 => absurd ((cg_10 a6).mpr e1) a8) (fun _ => ?_)
            simp +decide only [mjs_0, mjs_1, mjs_2, mjs_3, mjs_ble, true_and, Bool.false_eq_true, if_false, if_true, Nat.reduceAdd, Nat.reduceSub, Nat.reduceLeDiff, false_implies, true_implies, not_false_eq_true, not_true_eq_false, and_true, mm_sh, hm, mjs_up_at, mjs_up_c, mjs_up_f]
            exact mj_nv (hq H J hx_rf hJ trivial)
          by_cases e19 : gp S2 t = 19
          · rw [e19]
            refine mj_nv (ih (mu K2 P2 L2) (by omega) (i + 1) 19 fb2 K2 P2 N2 S2 C2 L2 I2 (Nat.le_refl _) (by omega) (Or.inr rfl) a1 a2 (by omega) hx2 (fun q => absurd q (by decide)) (fun _ => rm_tr r30 ?_))
            intro H Lg d nc ns J Q hJ hA hq
            obtain ⟨D, hD, hDk⟩ : ∃ D, d + (kr + 9) = D + 9 ∧ kr ≤ D := ⟨d + kr, by omega, by omega⟩
            rw [hD]
            try rw [hD] at hq
            refine mj_blk rfl ?_
            simp +decide only [mjs_0, mjs_1, mjs_2, mjs_3, mjs_ble, true_and, Bool.false_eq_true, if_false, if_true, Nat.reduceAdd, Nat.reduceSub, Nat.reduceLeDiff, false_implies, true_implies, not_false_eq_true, not_true_eq_false, and_true, mm_sh, hm, mjs_up_at, mjs_up_c, mjs_up_f]
            refine rq_126 (p := 19) (k := 18) hM' hJ a1 a6 (by decide) (by decide) (by decide) (fun _ => ?_) (fun q => absurd e19 q)
            simp +decide only [mjs_0, mjs_1, mjs_2, mjs_3, mjs_ble, true_and, Bool.false_eq_true, if_false, if_true, Nat.reduceAdd, Nat.reduceSub, Nat.reduceLeDiff, false_implies, true_implies, not_false_eq_true, not_true_eq_false, and_true, mm_sh, hm, mjs_up_at, mjs_up_c, mjs_up_f]
            exact mj_nv (hq H J hx_rf hJ trivial)
          · have r48 : RM X Rf mb_170 (kr + 9) 0 [some (.ref 36), none, none] [] (K, P, E, N, S, M, C, O, L) na 48 [some (.ref 36), none, some (.int (nI (rt t)))] [] (K2, P2, E, N2, S2, M, C2, O, L2) na := by
              refine rm_tr r30 ?_
              intro H Lg d nc ns J Q hJ hA hq
              obtain ⟨D, hD, hDk⟩ : ∃ D, d + (kr + 9) = D + 9 ∧ kr ≤ D := ⟨d + kr, by omega, by omega⟩
              rw [hD]
              try rw [hD] at hq
              refine mj_blk rfl ?_
              simp +decide only [mjs_0, mjs_1, mjs_2, mjs_3, mjs_ble, true_and, Bool.false_eq_true, if_false, if_true, Nat.reduceAdd, Nat.reduceSub, Nat.reduceLeDiff, false_implies, true_implies, not_false_eq_true, not_true_eq_false, and_true, mm_sh, hm, mjs_up_at, mjs_up_c, mjs_up_f]
              refine rq_126 (p := 19) (k := 18) hM' hJ a1 a6 (by decide) (by decide) (by decide) (fun q => absurd q e19) (fun _ => ?_)
              simp +decide only [mjs_0, mjs_1, mjs_2, mjs_3, mjs_ble, true_and, Bool.false_eq_true, if_false, if_true, Nat.reduceAdd, Nat.reduceSub, Nat.reduceLeDiff, false_implies, true_implies, not_false_eq_true, not_true_eq_false, and_true, mm_sh, hm, mjs_up_at, mjs_up_c, mjs_up_f]
              exact mj_nv (hq H J hx_rf hJ trivial)
            by_cases e36 : gp S2 t = 36
            · rw [e36]
              refine mj_nv (ih (mu K2 P2 L2) (by omega) (i + 1) 36 fb2 K2 P2 N2 S2 C2 L2 I2 (Nat.le_refl _) (by omega) (Or.inl rfl) a1 a2 (by omega) hx2 (fun _ => rm_tr r48 ?_) (fun q => absurd q (by decide)))
              intro H Lg d nc ns J Q hJ hA hq
              obtain ⟨D, hD, hDk⟩ : ∃ D, d + (kr + 9) = D + 9 ∧ kr ≤ D := ⟨d + kr, by omega, by omega⟩
              rw [hD]
              try rw [hD] at hq
              have me := rr_me hJ a1 a6
              have pn := rr_pn hJ a1 a6
              refine mj_blk rfl ?_
              simp +decide only [mjs_0, mjs_1, mjs_2, mjs_3, mjs_ble, true_and, Bool.false_eq_true, if_false, if_true, Nat.reduceAdd, Nat.reduceSub, Nat.reduceLeDiff, false_implies, true_implies, not_false_eq_true, not_true_eq_false, and_true, mm_sh, hm, mjs_up_at, mjs_up_c, mjs_up_f, (rr_d hJ).1.2.2.2]
              refine mj_blk rfl ?_
              simp +decide only [mjs_0, mjs_1, mjs_2, mjs_3, mjs_ble, true_and, Bool.false_eq_true, if_false, if_true, Nat.reduceAdd, Nat.reduceSub, Nat.reduceLeDiff, false_implies, true_implies, not_false_eq_true, not_true_eq_false, and_true, mm_sh, hm, mjs_up_at, mjs_up_c, mjs_up_f]
              refine r_125 (mm_W hM') (by omega) (rr_d hJ).2.2.2.2.1.1 (rr_d hJ).2.2.2.2.1.2.2.2.2 me.2.1 ?_
              simp +decide only [mjs_0, mjs_1, mjs_2, mjs_3, mjs_ble, true_and, Bool.false_eq_true, if_false, if_true, Nat.reduceAdd, Nat.reduceSub, Nat.reduceLeDiff, false_implies, true_implies, not_false_eq_true, not_true_eq_false, and_true, mm_sh, hm, mjs_up_at, mjs_up_c, mjs_up_f, pn.1 e36]
              refine mj_blk rfl ?_
              simp +decide only [mjs_0, mjs_1, mjs_2, mjs_3, mjs_ble, true_and, Bool.false_eq_true, if_false, if_true, Nat.reduceAdd, Nat.reduceSub, Nat.reduceLeDiff, false_implies, true_implies, not_false_eq_true, not_true_eq_false, and_true, mm_sh, hm, mjs_up_at, mjs_up_c, mjs_up_f]
              exact mj_nv (hq H J hx_rf hJ trivial)
            · have n36 : ¬ nI (gp S2 t) = 36 := fun q => e36 ((nI_eq (b := 36) (by omega) (by decide)).mp q)
              have n19 : ¬ nI (gp S2 t) = 19 := fun q => e19 ((nI_eq (b := 19) (by omega) (by decide)).mp q)
              have bad : gp S2 t < 25 → mj_rn X (mj_hd []) (mj_call X mj_P (mj_bi X) (d + 5)) mb_63 60 [some (.ref 34), none, none] [] (sh59, I2, Lg, Rf, nc, ns) Q := by
                intro hlt
                refine mj_blk rfl ?_
                simp +decide only [mjs_0, mjs_1, mjs_2, mjs_3, mjs_ble, true_and, Bool.false_eq_true, if_false, if_true, Nat.reduceAdd, Nat.reduceSub, Nat.reduceLeDiff, false_implies, true_implies, not_false_eq_true, not_true_eq_false, and_true, mc_sh, hr, mjs_up_at, mjs_up_c, mjs_up_f]
                refine c_80 s59_1 hr' ?_
                simp +decide only [mjs_0, mjs_1, mjs_2, mjs_3, mjs_ble, true_and, Bool.false_eq_true, if_false, if_true, Nat.reduceAdd, Nat.reduceSub, Nat.reduceLeDiff, false_implies, true_implies, not_false_eq_true, not_true_eq_false, and_true]
                refine hQ3 fb2 _ _ (rc_f a1 a2) (rm_f r48 ?_)
                intro H Lg d nc ns J Q hJ hA hq
                obtain ⟨D, hD, hDk⟩ : ∃ D, d + (kr + 9) = D + 9 ∧ kr ≤ D := ⟨d + kr, by omega, by omega⟩
                rw [hD]
                try rw [hD] at hq
                have me := rr_me hJ a1 a6
                have pn := (rr_pn hJ a1 a6).2.2 hlt
                have f92 : mj_rn X (mj_hd []) (mj_call X mj_P (mj_bi X) (D + 9)) mb_170 92 [some (.ref 36), none, none] [] (sh59, J, Lg, Rf, nc, ns) Q := by
                  refine mj_blk rfl ?_
                  simp +decide only [mjs_0, mjs_1, mjs_2, mjs_3, mjs_ble, true_and, Bool.false_eq_true, if_false, if_true, Nat.reduceAdd, Nat.reduceSub, Nat.reduceLeDiff, false_implies, true_implies, not_false_eq_true, not_true_eq_false, and_true, mm_sh, hm, mjs_up_at, mjs_up_c, mjs_up_f]
                  refine c_106 s59_36 ?_
                  rw [if_pos (rr_d hJ).1.2.2.2]
                  simp +decide only [mjs_0, mjs_1, mjs_2, mjs_3, mjs_ble, true_and, Bool.false_eq_true, if_false, if_true, Nat.reduceAdd, Nat.reduceSub, Nat.reduceLeDiff, false_implies, true_implies, not_false_eq_true, not_true_eq_false, and_true, mm_sh, hm, mjs_up_at, mjs_up_c, mjs_up_f]
                  refine mj_blk rfl ?_
                  simp +decide only [mjs_0, mjs_1, mjs_2, mjs_3, mjs_ble, true_and, Bool.false_eq_true, if_false, if_true, Nat.reduceAdd, Nat.reduceSub, Nat.reduceLeDiff, false_implies, true_implies, not_false_eq_true, not_true_eq_false, and_true, mm_sh, hm, mjs_up_at, mjs_up_c, mjs_up_f]
                  exact hq _ (rr_f (f := 6) (by decide) (by decide) hJ)
                refine mj_blk rfl ?_
                simp +decide only [mjs_0, mjs_1, mjs_2, mjs_3, mjs_ble, true_and, Bool.false_eq_true, if_false, if_true, Nat.reduceAdd, Nat.reduceSub, Nat.reduceLeDiff, false_implies, true_implies, not_false_eq_true, not_true_eq_false, and_true, mm_sh, hm, mjs_up_at, mjs_up_c, mjs_up_f, (rr_d hJ).1.2.2.2]
                refine mj_blk rfl ?_
                simp +decide only [mjs_0, mjs_1, mjs_2, mjs_3, mjs_ble, true_and, Bool.false_eq_true, if_false, if_true, Nat.reduceAdd, Nat.reduceSub, Nat.reduceLeDiff, false_implies, true_implies, not_false_eq_true, not_true_eq_false, and_true, mm_sh, hm, mjs_up_at, mjs_up_c, mjs_up_f]
                refine r_125 (mm_W hM') (by omega) (rr_d hJ).2.2.2.2.1.1 (rr_d hJ).2.2.2.2.1.2.2.2.2 me.2.1 ?_
                simp +decide only [mjs_0, mjs_1, mjs_2, mjs_3, mjs_ble, true_and, Bool.false_eq_true, if_false, if_true, Nat.reduceAdd, Nat.reduceSub, Nat.reduceLeDiff, false_implies, true_implies, not_false_eq_true, not_true_eq_false, and_true, mm_sh, hm, mjs_up_at, mjs_up_c, mjs_up_f]
                refine mj_blk rfl ?_
                simp +decide only [mjs_0, mjs_1, mjs_2, mjs_3, mjs_ble, true_and, Bool.false_eq_true, if_false, if_true, Nat.reduceAdd, Nat.reduceSub, Nat.reduceLeDiff, false_implies, true_implies, not_false_eq_true, not_true_eq_false, and_true, mm_sh, hm, mjs_up_at, mjs_up_c, mjs_up_f]
                refine mj_blk rfl ?_
                simp +decide only [mjs_0, mjs_1, mjs_2, mjs_3, mjs_ble, true_and, Bool.false_eq_true, if_false, if_true, Nat.reduceAdd, Nat.reduceSub, Nat.reduceLeDiff, false_implies, true_implies, not_false_eq_true, not_true_eq_false, and_true, mm_sh, hm, mjs_up_at, mjs_up_c, mjs_up_f]
                refine ⟨fun _ => mj_blk rfl ?_, fun q => absurd pn.1 q⟩
                simp +decide only [mjs_0, mjs_1, mjs_2, mjs_3, mjs_ble, true_and, Bool.false_eq_true, if_false, if_true, Nat.reduceAdd, Nat.reduceSub, Nat.reduceLeDiff, false_implies, true_implies, not_false_eq_true, not_true_eq_false, and_true, mm_sh, hm, mjs_up_at, mjs_up_c, mjs_up_f, (rr_d hJ).1.2.2.2]
                refine mj_blk rfl ?_
                simp +decide only [mjs_0, mjs_1, mjs_2, mjs_3, mjs_ble, true_and, Bool.false_eq_true, if_false, if_true, Nat.reduceAdd, Nat.reduceSub, Nat.reduceLeDiff, false_implies, true_implies, not_false_eq_true, not_true_eq_false, and_true, mm_sh, hm, mjs_up_at, mjs_up_c, mjs_up_f]
                refine ⟨fun _ => mj_nv f92, fun q => mj_blk rfl ?_⟩
                simp +decide only [mjs_0, mjs_1, mjs_2, mjs_3, mjs_ble, true_and, Bool.false_eq_true, if_false, if_true, Nat.reduceAdd, Nat.reduceSub, Nat.reduceLeDiff, false_implies, true_implies, not_false_eq_true, not_true_eq_false, and_true, mm_sh, hm, mjs_up_at, mjs_up_c, mjs_up_f]
                refine ⟨fun q2 => ?_, fun _ => mj_nv f92⟩
                rcases pn.2 with pn | pn
                · exact absurd pn q
                · exact absurd q2 pn
              refine mj_blk rfl ?_
              simp +decide only [mjs_0, mjs_1, mjs_2, mjs_3, mjs_ble, true_and, Bool.false_eq_true, if_false, if_true, Nat.reduceAdd, Nat.reduceSub, Nat.reduceLeDiff, false_implies, true_implies, not_false_eq_true, not_true_eq_false, and_true]
              refine ⟨fun q => absurd q (nI_ge (a := i + 1) (b := 1000000000) (by omega) (by decide)), fun _ => mj_blk rfl ?_⟩
              simp +decide only [mjs_0, mjs_1, mjs_2, mjs_3, mjs_ble, true_and, Bool.false_eq_true, if_false, if_true, Nat.reduceAdd, Nat.reduceSub, Nat.reduceLeDiff, false_implies, true_implies, not_false_eq_true, not_true_eq_false, and_true]
              refine ⟨fun q => absurd q n36, fun _ => mj_blk rfl ?_⟩
              simp +decide only [mjs_0, mjs_1, mjs_2, mjs_3, mjs_ble, true_and, Bool.false_eq_true, if_false, if_true, Nat.reduceAdd, Nat.reduceSub, Nat.reduceLeDiff, false_implies, true_implies, not_false_eq_true, not_true_eq_false, and_true]
              refine ⟨fun _ => mj_blk rfl ?_, fun q => absurd n19 q⟩
              simp +decide only [mjs_0, mjs_1, mjs_2, mjs_3, mjs_ble, true_and, Bool.false_eq_true, if_false, if_true, Nat.reduceAdd, Nat.reduceSub, Nat.reduceLeDiff, false_implies, true_implies, not_false_eq_true, not_true_eq_false, and_true]
              by_cases e25 : gp S2 t < 25
              · exact ⟨fun _ => mj_nv (bad e25), fun q => absurd (nI_lt (b := 25) e25 (by decide)) q⟩
              · refine ⟨fun q => absurd q (nI_nlt (a := gp S2 t) (b := 25) (by omega) (by omega)), fun _ => mj_blk rfl ?_⟩
                simp +decide only [mjs_0, mjs_1, mjs_2, mjs_3, mjs_ble, true_and, Bool.false_eq_true, if_false, if_true, Nat.reduceAdd, Nat.reduceSub, Nat.reduceLeDiff, false_implies, true_implies, not_false_eq_true, not_true_eq_false, and_true]
                refine ⟨fun q => absurd q (nI_nlt (a := 35) (b := gp S2 t) (by omega) (by decide)), fun _ => mj_blk rfl ?_⟩
                simp +decide only [mjs_0, mjs_1, mjs_2, mjs_3, mjs_ble, true_and, Bool.false_eq_true, if_false, if_true, Nat.reduceAdd, Nat.reduceSub, Nat.reduceLeDiff, false_implies, true_implies, not_false_eq_true, not_true_eq_false, and_true]
                refine mj_blk rfl ?_
                simp +decide only [mjs_0, mjs_1, mjs_2, mjs_3, mjs_ble, true_and, Bool.false_eq_true, if_false, if_true, Nat.reduceAdd, Nat.reduceSub, Nat.reduceLeDiff, false_implies, true_implies, not_false_eq_true, not_true_eq_false, and_true]
                refine hQ1 fb2 K2 P2 N2 S2 C2 L2 I2 (gp S2 t) a1 a2 a3 hx2 ⟨by omega, by omega⟩ (rm_tr r48 ?_)
                intro H Lg d nc ns J Q hJ hA hq
                obtain ⟨D, hD, hDk⟩ : ∃ D, d + (kr + 9) = D + 9 ∧ kr ≤ D := ⟨d + kr, by omega, by omega⟩
                rw [hD]
                try rw [hD] at hq
                have me := rr_me hJ a1 a6
                have pn := (rr_pn hJ a1 a6).2.1 (by omega) (by omega)
                have n34 : ¬ nI (gp S2 t - 2) = 34 := fun q => absurd ((nI_eq (b := 34) (by omega) (by decide)).mp q) (by omega)
                refine mj_blk rfl ?_
                simp +decide only [mjs_0, mjs_1, mjs_2, mjs_3, mjs_ble, true_and, Bool.false_eq_true, if_false, if_true, Nat.reduceAdd, Nat.reduceSub, Nat.reduceLeDiff, false_implies, true_implies, not_false_eq_true, not_true_eq_false, and_true, mm_sh, hm, mjs_up_at, mjs_up_c, mjs_up_f, (rr_d hJ).1.2.2.2]
                refine mj_blk rfl ?_
                simp +decide only [mjs_0, mjs_1, mjs_2, mjs_3, mjs_ble, true_and, Bool.false_eq_true, if_false, if_true, Nat.reduceAdd, Nat.reduceSub, Nat.reduceLeDiff, false_implies, true_implies, not_false_eq_true, not_true_eq_false, and_true, mm_sh, hm, mjs_up_at, mjs_up_c, mjs_up_f]
                refine r_125 (mm_W hM') (by omega) (rr_d hJ).2.2.2.2.1.1 (rr_d hJ).2.2.2.2.1.2.2.2.2 me.2.1 ?_
                simp +decide only [mjs_0, mjs_1, mjs_2, mjs_3, mjs_ble, true_and, Bool.false_eq_true, if_false, if_true, Nat.reduceAdd, Nat.reduceSub, Nat.reduceLeDiff, false_implies, true_implies, not_false_eq_true, not_true_eq_false, and_true, mm_sh, hm, mjs_up_at, mjs_up_c, mjs_up_f, pn]
                refine mj_blk rfl ?_
                simp +decide only [mjs_0, mjs_1, mjs_2, mjs_3, mjs_ble, true_and, Bool.false_eq_true, if_false, if_true, Nat.reduceAdd, Nat.reduceSub, Nat.reduceLeDiff, false_implies, true_implies, not_false_eq_true, not_true_eq_false, and_true, mm_sh, hm, mjs_up_at, mjs_up_c, mjs_up_f]
                refine mj_blk rfl ?_
                simp +decide only [mjs_0, mjs_1, mjs_2, mjs_3, mjs_ble, true_and, Bool.false_eq_true, if_false, if_true, Nat.reduceAdd, Nat.reduceSub, Nat.reduceLeDiff, false_implies, true_implies, not_false_eq_true, not_true_eq_false, and_true, mm_sh, hm, mjs_up_at, mjs_up_c, mjs_up_f]
                refine ⟨fun _ => mj_blk rfl ?_, fun q => absurd n34 q⟩
                simp +decide only [mjs_0, mjs_1, mjs_2, mjs_3, mjs_ble, true_and, Bool.false_eq_true, if_false, if_true, Nat.reduceAdd, Nat.reduceSub, Nat.reduceLeDiff, false_implies, true_implies, not_false_eq_true, not_true_eq_false, and_true, mm_sh, hm, mjs_up_at, mjs_up_c, mjs_up_f, (rr_d hJ).1.2.2.2]
                refine mj_blk rfl ?_
                simp +decide only [mjs_0, mjs_1, mjs_2, mjs_3, mjs_ble, true_and, Bool.false_eq_true, if_false, if_true, Nat.reduceAdd, Nat.reduceSub, Nat.reduceLeDiff, false_implies, true_implies, not_false_eq_true, not_true_eq_false, and_true, mm_sh, hm, mjs_up_at, mjs_up_c, mjs_up_f]
                refine ⟨fun q => absurd q (nI_nlt (a := gp S2 t - 2) (b := 23) (by omega) (by omega)), fun _ => mj_blk rfl ?_⟩
                simp +decide only [mjs_0, mjs_1, mjs_2, mjs_3, mjs_ble, true_and, Bool.false_eq_true, if_false, if_true, Nat.reduceAdd, Nat.reduceSub, Nat.reduceLeDiff, false_implies, true_implies, not_false_eq_true, not_true_eq_false, and_true, mm_sh, hm, mjs_up_at, mjs_up_c, mjs_up_f]
                exact ⟨fun _ => mj_nv (hq H J hx_rf hJ trivial), fun q => absurd (nI_le (b := 33) (by omega) (by decide)) q⟩
        · simp +decide only [mjs_0, mjs_1, mjs_2, mjs_3, mjs_ble, true_and, Bool.false_eq_true, if_false, if_true, Nat.reduceAdd, Nat.reduceSub, Nat.reduceLeDiff, false_implies, true_implies, not_false_eq_true, not_true_eq_false, and_true]
          exact hQ3 fb' g2 I2 a1 a2
      refine mj_blk rfl ?_
      simp +decide only [mjs_0, mjs_1, mjs_2, mjs_3, mjs_ble, true_and, Bool.false_eq_true, if_false, if_true, Nat.reduceAdd, Nat.reduceSub, Nat.reduceLeDiff, false_implies, true_implies, not_false_eq_true, not_true_eq_false, and_true]
      refine ⟨fun q => absurd q (nI_ge (a := i) (b := 1000000000) (by omega) (by decide)), fun _ => ?_⟩
      rcases b3 with rfl | rfl
      · refine mj_blk rfl ?_
        simp +decide only [mjs_0, mjs_1, mjs_2, mjs_3, mjs_ble, true_and, Bool.false_eq_true, if_false, if_true, Nat.reduceAdd, Nat.reduceSub, Nat.reduceLeDiff, false_implies, true_implies, not_false_eq_true, not_true_eq_false, and_true]
        exact mj_nv K23
      · refine mj_blk rfl ?_
        simp +decide only [mjs_0, mjs_1, mjs_2, mjs_3, mjs_ble, true_and, Bool.false_eq_true, if_false, if_true, Nat.reduceAdd, Nat.reduceSub, Nat.reduceLeDiff, false_implies, true_implies, not_false_eq_true, not_true_eq_false, and_true]
        refine mj_blk rfl ?_
        simp +decide only [mjs_0, mjs_1, mjs_2, mjs_3, mjs_ble, true_and, Bool.false_eq_true, if_false, if_true, Nat.reduceAdd, Nat.reduceSub, Nat.reduceLeDiff, false_implies, true_implies, not_false_eq_true, not_true_eq_false, and_true]
        exact mj_nv K23
  refine mj_enter (z := (3, [], mb_63)) (by decide) rfl rfl ?_
  refine mj_blk rfl ?_
  simp +decide only [mjs_0, mjs_1, mjs_2, mjs_3, mjs_ble, true_and, Bool.false_eq_true, if_false, if_true, Nat.reduceAdd, Nat.reduceSub, Nat.reduceLeDiff, false_implies, true_implies, not_false_eq_true, not_true_eq_false, and_true]
  refine mj_nv (loop (mu K P L) 0 36 fb K P N S C L I (Nat.le_refl _) (by omega) (Or.inl rfl) hv h hp xs_rf (fun _ => ?_) (fun q => absurd q (by decide)))
  intro H Lg d nc ns J Q hJ hA hq
  obtain ⟨D, hD, hDk⟩ : ∃ D, d + (kr + 9) = D + 9 ∧ kr ≤ D := ⟨d + kr, by omega, by omega⟩
  rw [hD]
  try rw [hD] at hq
  refine mj_blk rfl ?_
  simp +decide only [mjs_0, mjs_1, mjs_2, mjs_3, mjs_ble, true_and, Bool.false_eq_true, if_false, if_true, Nat.reduceAdd, Nat.reduceSub, Nat.reduceLeDiff, false_implies, true_implies, not_false_eq_true, not_true_eq_false, and_true]
  exact mj_nv (hq H J hx_rf hJ trivial)
end MJGL
