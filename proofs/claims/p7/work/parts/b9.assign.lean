/-! ASSIGN as a whole, in both -/
section MJAW
variable {X : mj_X} {d nc ns : Nat} {Q : mj_Q} {I I' J J' H : Nat → Nat → Int32} {Lg : Nat → Nat → Int64} {Rf : Nat → Nat → Option Nat} {fb fb' : Nat → Nat → Int32} {vb : Nat → Int32} {K K' K'' : Nat × Nat × Nat} {P P' P'' : List Nat} {E : sgE} {N N' N'' : sgN} {S S' S'' : sgS} {M : sgM} {C C' C'' : sgC} {O : sgO} {L L' L'' : sgL} {t n kc kr c gl : Nat} {g g' : sg}
theorem rm_at {T : List mj_B} {k pc pc' D : Nat} {lv lv' : mj_LV} {st st' : List Value} (h : RM X Rf T k pc lv st g na pc' lv' st' g' na) (hD : k ≤ D) (hJ : RR H g J) (hq : ∀ H' J', hx H H' → RR H' g' J' → mj_rn X (mj_hd []) (mj_call X mj_P (mj_bi X) D) T pc' lv' st' (sh59, J', Lg, Rf, nc, ns) Q) : mj_rn X (mj_hd []) (mj_call X mj_P (mj_bi X) D) T pc lv st (sh59, J, Lg, Rf, nc, ns) Q := by
  have e := Nat.sub_add_cancel hD
  have := h H Lg (D - k) nc ns J Q hJ trivial (fun H' J' a b _ => by rw [e]; exact hq H' J' a b)
  rwa [e] at this
theorem p_64 (hR : mj_Rt mp_R Rf) (hM' : mj_Rt mm_R Rf) (hX : XD X Rf vb kc kr n) (hN : NU X Rf vb kc kr n) {n' kc' kr' : Nat} (hN' : NU X Rf vb kc' kr' n') (h12 : 12 ≤ kr) {D : Nat} (hD : kc + 9 ≤ D) (hD' : kc' + 9 ≤ D) (hn : K.2.2 + n = 40) (hn' : K.2.2 + 1 + n' = 40) (hr' : nc + 1 ≤ X.2.2.1 ∧ ns + 6 ≤ X.2.2.2) (hv : gv (K, P, E, N, S, M, C, O, L)) (hw : gw K S) (hs : S.2.2.2 + 1 ≤ K.1) (hrm : M.2.2.2.2.2 + 1 ≤ K.1) (hst : M.2.1 M.2.2.2.2.1 = M.2.2.2.1) (hp : P.length ≤ 10000) (h : RC fb vb (K, P, E, N, S, M, C, O, L) I) (hc : 25 ≤ c ∧ c ≤ 36)
    (hQ1 : TQ1 X Rf vb (kr + 12) 168 [.ref 36, .int (nI (c - 2)), .int (nI 0)] K P E N S M C O L Lg nc ns Q)
    (hQ3 : TQ3 X Rf vb (kr + 12) 168 [.ref 36, .int (nI (c - 2)), .int (nI 0)] (K, P, E, N, S, M, C, O, L) Lg nc ns Q) :
    mj_call X mj_P (mj_bi X) D 64 [.ref 34, .int (nI c)] (sh59, I, Lg, Rf, nc, ns) Q := by
  have hr := mc_rf hR
  have hm := mm_rf hM'
  obtain ⟨d, rfl⟩ : ∃ d, D = d + 1 := ⟨D - 1, by omega⟩
  by_cases e36 : c = 36
  · subst e36
    have qF : ∀ fb g' I', RCf fb vb g' I' → RMf X Rf mb_170 (kr + 9) 0 [some (.ref 36), none, none] [] (K, P, E, N, S, M, C, O, L) na none g' → Q (.inr 500) (sh59, I', Lg, Rf, nc + 1, ns + 6) := by
      intro fb g' I' a1 a2
      refine hQ3 fb g' I' a1 ?_
      intro H Lg d nc ns J Q hJ hA hq
      obtain ⟨D, hD, hDk⟩ : ∃ D, d + (kr + 12) = D + 12 ∧ kr ≤ D := ⟨d + kr, by omega, by omega⟩
      rw [hD]
      refine mj_enter (z := (6, [], mb_168)) (by decide) rfl rfl ?_
      refine mj_blk rfl ?_
      simp +decide only [mjs_0, mjs_1, mjs_2, mjs_3, mjs_ble, true_and, Bool.false_eq_true, if_false, if_true, Nat.reduceAdd, Nat.reduceSub, Nat.reduceLeDiff, false_implies, true_implies, not_false_eq_true, not_true_eq_false, and_true]
      refine mj_blk rfl ?_
      simp +decide only [mjs_0, mjs_1, mjs_2, mjs_3, mjs_ble, true_and, Bool.false_eq_true, if_false, if_true, Nat.reduceAdd, Nat.reduceSub, Nat.reduceLeDiff, false_implies, true_implies, not_false_eq_true, not_true_eq_false, and_true, mm_sh, hm, mjs_up_at, mjs_up_c, mjs_up_f]
      refine mj_enter (z := (3, [], mb_170)) (by decide) rfl rfl ?_
      refine rmf_at a2 (by omega) hJ (fun J1 c1 => ?_)
      simp +decide only [mjs_0, mjs_1, mjs_2, mjs_3, mjs_ble, true_and, Bool.false_eq_true, if_false, if_true, Nat.reduceAdd, Nat.reduceSub, Nat.reduceLeDiff, false_implies, true_implies, not_false_eq_true, not_true_eq_false, and_true, mm_sh, hm, mjs_up_at, mjs_up_c, mjs_up_f]
      refine mj_blk rfl ?_
      simp +decide only [mjs_0, mjs_1, mjs_2, mjs_3, mjs_ble, true_and, Bool.false_eq_true, if_false, if_true, Nat.reduceAdd, Nat.reduceSub, Nat.reduceLeDiff, false_implies, true_implies, not_false_eq_true, not_true_eq_false, and_true, mm_sh, hm, mjs_up_at, mjs_up_c, mjs_up_f]
      exact hq J1 c1
    refine mj_enter (z := (5, [], mb_64)) (by decide) rfl rfl ?_
    refine mj_blk rfl ?_
    simp +decide only [mjs_0, mjs_1, mjs_2, mjs_3, mjs_ble, true_and, Bool.false_eq_true, if_false, if_true, Nat.reduceAdd, Nat.reduceSub, Nat.reduceLeDiff, false_implies, true_implies, not_false_eq_true, not_true_eq_false, and_true]
    refine mj_blk rfl ?_
    simp +decide only [mjs_0, mjs_1, mjs_2, mjs_3, mjs_ble, true_and, Bool.false_eq_true, if_false, if_true, Nat.reduceAdd, Nat.reduceSub, Nat.reduceLeDiff, false_implies, true_implies, not_false_eq_true, not_true_eq_false, and_true]
    refine mj_blk rfl ?_
    simp +decide only [mjs_0, mjs_1, mjs_2, mjs_3, mjs_ble, true_and, Bool.false_eq_true, if_false, if_true, Nat.reduceAdd, Nat.reduceSub, Nat.reduceLeDiff, false_implies, true_implies, not_false_eq_true, not_true_eq_false, and_true]
    refine mj_blk rfl ?_
    simp +decide only [mjs_0, mjs_1, mjs_2, mjs_3, mjs_ble, true_and, Bool.false_eq_true, if_false, if_true, Nat.reduceAdd, Nat.reduceSub, Nat.reduceLeDiff, false_implies, true_implies, not_false_eq_true, not_true_eq_false, and_true, mc_sh, hr, mjs_up_at, mjs_up_c, mjs_up_f]
    refine p_63 hR hM' hX h12 (by omega) hn hr' hv hw hp h (fun fb1 K1 P1 N1 S1 C1 L1 I1 c a1 a2 a3 a4 a5 a6 => ?_) (fun fb1 g' I' a1 a2 => ?_)
    · have hK1 := a4.2.1.2
      have hk1 := a4.2.1.1
      have hs1 := sx_s a4 hs
      simp +decide only [mjs_0, mjs_1, mjs_2, mjs_3, mjs_ble, true_and, Bool.false_eq_true, if_false, if_true, Nat.reduceAdd, Nat.reduceSub, Nat.reduceLeDiff, false_implies, true_implies, not_false_eq_true, not_true_eq_false, and_true, mc_sh, hr, mjs_up_at, mjs_up_c, mjs_up_f]
      refine mj_nv (a_all (gl := 1) (c := c) hR hM' hX hN hN' h12 (by omega) (by omega) (by rw [hK1]; exact hn) (by rw [hK1]; exact hn') hr' a1 (gw_xs hw a4) hs1 (by omega) hst (Or.inr rfl) (by omega) a2 a5 ?_ ?_)
      · intro fb' K' P' N' S' M' C' L' I' b1 b2 b3 b4 b5 b6 b7 b8
        refine hQ1 fb' K' P' N' S' M' C' L' I' b1 b2 b3 ⟨by have := b4.1; omega, b4.2.trans hK1⟩ b5 ⟨b6.1.trans a4.2.2.2.2.1.2.2.1, b6.2.trans a4.2.2.2.2.1.1⟩ b7 ?_
        intro H Lg d nc ns J Q hJ hq
        obtain ⟨D, hD, hDk⟩ : ∃ D, d + (kr + 12) = D + 12 ∧ kr ≤ D := ⟨d + kr, by omega, by omega⟩
        rw [hD]
        refine mj_enter (z := (6, [], mb_168)) (by decide) rfl rfl ?_
        refine mj_blk rfl ?_
        simp +decide only [mjs_0, mjs_1, mjs_2, mjs_3, mjs_ble, true_and, Bool.false_eq_true, if_false, if_true, Nat.reduceAdd, Nat.reduceSub, Nat.reduceLeDiff, false_implies, true_implies, not_false_eq_true, not_true_eq_false, and_true]
        refine mj_blk rfl ?_
        simp +decide only [mjs_0, mjs_1, mjs_2, mjs_3, mjs_ble, true_and, Bool.false_eq_true, if_false, if_true, Nat.reduceAdd, Nat.reduceSub, Nat.reduceLeDiff, false_implies, true_implies, not_false_eq_true, not_true_eq_false, and_true, mm_sh, hm, mjs_up_at, mjs_up_c, mjs_up_f]
        refine mj_enter (z := (3, [], mb_170)) (by decide) rfl rfl ?_
        refine rm_at a6 (by omega) hJ (fun H1 J1 c1 c2 => ?_)
        refine mj_blk rfl ?_
        simp +decide only [mjs_0, mjs_1, mjs_2, mjs_3, mjs_ble, true_and, Bool.false_eq_true, if_false, if_true, Nat.reduceAdd, Nat.reduceSub, Nat.reduceLeDiff, false_implies, true_implies, not_false_eq_true, not_true_eq_false, and_true, mm_sh, hm, mjs_up_at, mjs_up_c, mjs_up_f]
        refine rxw_at b8 (by omega) c2 (fun H2 J2 c3 c4 => ?_)
        simp +decide only [mjs_0, mjs_1, mjs_2, mjs_3, mjs_ble, true_and, Bool.false_eq_true, if_false, if_true, Nat.reduceAdd, Nat.reduceSub, Nat.reduceLeDiff, false_implies, true_implies, not_false_eq_true, not_true_eq_false, and_true, mm_sh, hm, mjs_up_at, mjs_up_c, mjs_up_f]
        refine mj_blk rfl ?_
        simp +decide only [mjs_0, mjs_1, mjs_2, mjs_3, mjs_ble, true_and, Bool.false_eq_true, if_false, if_true, Nat.reduceAdd, Nat.reduceSub, Nat.reduceLeDiff, false_implies, true_implies, not_false_eq_true, not_true_eq_false, and_true, mm_sh, hm, mjs_up_at, mjs_up_c, mjs_up_f]
        refine mj_blk rfl ?_
        simp +decide only [mjs_0, mjs_1, mjs_2, mjs_3, mjs_ble, true_and, Bool.false_eq_true, if_false, if_true, Nat.reduceAdd, Nat.reduceSub, Nat.reduceLeDiff, false_implies, true_implies, not_false_eq_true, not_true_eq_false, and_true, mm_sh, hm, mjs_up_at, mjs_up_c, mjs_up_f]
        exact hq H2 J2 (fun c hc => (c3 c hc).trans (c1 c (Or.inl hc))) c4
      · intro fb' g' I' b1 b2
        refine hQ3 fb' g' I' b1 ?_
        intro H Lg d nc ns J Q hJ hA hq
        obtain ⟨D, hD, hDk⟩ : ∃ D, d + (kr + 12) = D + 12 ∧ kr ≤ D := ⟨d + kr, by omega, by omega⟩
        rw [hD]
        refine mj_enter (z := (6, [], mb_168)) (by decide) rfl rfl ?_
        refine mj_blk rfl ?_
        simp +decide only [mjs_0, mjs_1, mjs_2, mjs_3, mjs_ble, true_and, Bool.false_eq_true, if_false, if_true, Nat.reduceAdd, Nat.reduceSub, Nat.reduceLeDiff, false_implies, true_implies, not_false_eq_true, not_true_eq_false, and_true]
        refine mj_blk rfl ?_
        simp +decide only [mjs_0, mjs_1, mjs_2, mjs_3, mjs_ble, true_and, Bool.false_eq_true, if_false, if_true, Nat.reduceAdd, Nat.reduceSub, Nat.reduceLeDiff, false_implies, true_implies, not_false_eq_true, not_true_eq_false, and_true, mm_sh, hm, mjs_up_at, mjs_up_c, mjs_up_f]
        refine mj_enter (z := (3, [], mb_170)) (by decide) rfl rfl ?_
        refine rm_at a6 (by omega) hJ (fun H1 J1 c1 c2 => ?_)
        refine mj_blk rfl ?_
        simp +decide only [mjs_0, mjs_1, mjs_2, mjs_3, mjs_ble, true_and, Bool.false_eq_true, if_false, if_true, Nat.reduceAdd, Nat.reduceSub, Nat.reduceLeDiff, false_implies, true_implies, not_false_eq_true, not_true_eq_false, and_true, mm_sh, hm, mjs_up_at, mjs_up_c, mjs_up_f]
        refine ry_at b2 (by omega) c2 trivial (fun J2 c3 => ?_)
        simp +decide only [mjs_0, mjs_1, mjs_2, mjs_3, mjs_ble, true_and, Bool.false_eq_true, if_false, if_true, Nat.reduceAdd, Nat.reduceSub, Nat.reduceLeDiff, false_implies, true_implies, not_false_eq_true, not_true_eq_false, and_true, mm_sh, hm, mjs_up_at, mjs_up_c, mjs_up_f]
        refine mj_blk rfl ?_
        simp +decide only [mjs_0, mjs_1, mjs_2, mjs_3, mjs_ble, true_and, Bool.false_eq_true, if_false, if_true, Nat.reduceAdd, Nat.reduceSub, Nat.reduceLeDiff, false_implies, true_implies, not_false_eq_true, not_true_eq_false, and_true, mm_sh, hm, mjs_up_at, mjs_up_c, mjs_up_f]
        refine mj_blk rfl ?_
        simp +decide only [mjs_0, mjs_1, mjs_2, mjs_3, mjs_ble, true_and, Bool.false_eq_true, if_false, if_true, Nat.reduceAdd, Nat.reduceSub, Nat.reduceLeDiff, false_implies, true_implies, not_false_eq_true, not_true_eq_false, and_true, mm_sh, hm, mjs_up_at, mjs_up_c, mjs_up_f]
        exact hq J2 (rd_hx c3 c1)
    · simp +decide only [mjs_0, mjs_1, mjs_2, mjs_3, mjs_ble, true_and, Bool.false_eq_true, if_false, if_true, Nat.reduceAdd, Nat.reduceSub, Nat.reduceLeDiff, false_implies, true_implies, not_false_eq_true, not_true_eq_false, and_true]
      exact qF fb1 g' I' a1 a2
  · have n36 : ¬ nI c = 36 := fun q => e36 ((nI_eq (b := 36) (by omega) (by decide)).mp q)
    refine mj_enter (z := (5, [], mb_64)) (by decide) rfl rfl ?_
    refine mj_blk rfl ?_
    simp +decide only [mjs_0, mjs_1, mjs_2, mjs_3, mjs_ble, true_and, Bool.false_eq_true, if_false, if_true, Nat.reduceAdd, Nat.reduceSub, Nat.reduceLeDiff, false_implies, true_implies, not_false_eq_true, not_true_eq_false, and_true]
    refine ⟨fun _ => mj_blk rfl ?_, fun q => absurd n36 q⟩
    simp +decide only [mjs_0, mjs_1, mjs_2, mjs_3, mjs_ble, true_and, Bool.false_eq_true, if_false, if_true, Nat.reduceAdd, Nat.reduceSub, Nat.reduceLeDiff, false_implies, true_implies, not_false_eq_true, not_true_eq_false, and_true]
    refine mj_blk rfl ?_
    simp +decide only [mjs_0, mjs_1, mjs_2, mjs_3, mjs_ble, true_and, Bool.false_eq_true, if_false, if_true, Nat.reduceAdd, Nat.reduceSub, Nat.reduceLeDiff, false_implies, true_implies, not_false_eq_true, not_true_eq_false, and_true]
    refine mj_blk rfl ?_
    simp +decide only [mjs_0, mjs_1, mjs_2, mjs_3, mjs_ble, true_and, Bool.false_eq_true, if_false, if_true, Nat.reduceAdd, Nat.reduceSub, Nat.reduceLeDiff, false_implies, true_implies, not_false_eq_true, not_true_eq_false, and_true]
    refine mj_nv (a_all (gl := 0) (c := c) hR hM' hX hN hN' h12 (by omega) (by omega) hn hn' hr' hv hw hs hrm hst (Or.inl rfl) hp h ⟨hc.1, by omega⟩ ?_ ?_)
    · intro fb' K' P' N' S' M' C' L' I' b1 b2 b3 b4 b5 b6 b7 b8
      exact hQ1 fb' K' P' N' S' M' C' L' I' b1 b2 b3 b4 b5 b6 b7 (fun H Lg d nc ns J Q hJ hq => rxw_at b8 (by omega) hJ hq)
    · intro fb' g' I' b1 b2
      exact hQ3 fb' g' I' b1 (ry_k _ b2 (by omega))
end MJAW
