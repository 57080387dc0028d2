/-! csname, in both: its loop -/
section MJCS
variable {X : mj_X} {d nc ns : Nat} {Q : mj_Q} {I I' J J' H : Nat → Nat → Int32} {Lg : Nat → Nat → Int64} {Rf : Nat → Nat → Option Nat} {fb fb' : Nat → Nat → Int32} {vb : Nat → Int32} {K K' K'' : Nat × Nat × Nat} {P P' P'' : List Nat} {E : sgE} {N N' N'' : sgN} {S S' S'' : sgS} {M : sgM} {C C' C'' : sgC} {O : sgO} {L L' L'' : sgL} {t n kc kr x g s' k0 c : Nat} {w : List Nat}
theorem fd_un (hv : gvN N) {wf : Nat → Nat} {len y : Nat} (hx : x < N.2.2) (hy : y < N.2.2) (h1 : fd_is N.1 N.2.1 wf len x) (h2 : fd_is N.1 N.2.1 wf len y) : x = y := hv.2.2.2.1 x y hx hy ⟨h1.1.trans h2.1.symm, fun j hj => by
  have e1 := h1.1
  have e2 := h2.1
  rw [h1.2 j (by omega), h2.2 j (by omega)]⟩
theorem p_28 (hR : mj_Rt mp_R Rf) (hM' : mj_Rt mm_R Rf) (hX : XD X Rf vb kc kr n) {D : Nat} (hD : kc + 5 ≤ D) (hn : K.2.2 + n = 40) (hr' : nc + 1 ≤ X.2.2.1 ∧ ns + 6 ≤ X.2.2.2) (hv : gv (K, P, E, N, S, M, C, O, L)) (hw : gw K S) (hk0 : K.1 = k0 + 1) (hsv : S.2.2.2 ≤ k0) (h1 : 1 ≤ K.2.2) (hE1 : em_v (K.2.2 - 1) E) (hp : P.length ≤ 10000) (h : RC fb vb (K, P, E, N, S, M, C, O, L) I)
    (hQ1 : ∀ fb' K' P' N' S' C' L' I', gv (K', P', E, N', S', M, C', O, L') → RC fb' vb (K', P', E, N', S', M, C', O, L') I' → P'.length ≤ 10000 → xr k0 K N S C L K' N' S' C' L' → RX X Rf (kr + 6) 135 [.ref 36] (K, P, E, N, S, M, C, O, L) na none (K', P', E, N', S', M, C', O, L') na → Q (.inl none) (sh59, I', Lg, Rf, nc, ns))
    (hQ3 : ∀ g' I', RCf fb vb g' I' → RY X Rf (kr + 6) 135 [.ref 36] (K, P, E, N, S, M, C, O, L) na none g' → Q (.inr 500) (sh59, I', Lg, Rf, nc + 1, ns + 6)) :
    mj_call X mj_P (mj_bi X) D 28 [.ref 28] (sh59, I, Lg, Rf, nc, ns) Q := by
  have hr := mc_rf hR
  have hm := mm_rf hM'
  obtain ⟨d, rfl⟩ : ∃ d, D = d + 5 := ⟨D - 5, by omega⟩
  generalize hdp : K.2.2 = dp at *
  have hdp40 : dp ≤ 40 := by omega
  have hemt := em_vt hE1
  have qF : ∀ g' I', RCf fb vb g' I' → RMf X Rf mb_135 (kr + 5) 0 [some (.ref 36), none, none, none] [] (K, P, E, N, S, M, C, O, L) na none g' → Q (.inr 500) (sh59, I', Lg, Rf, nc + 1, ns + 6) := fun g' I' a1 a2 => hQ3 g' I' a1 (ry_in (z := 4) (by decide) rfl rfl rfl a2)
  have i28 : I 28 1 = nI (em_t E) := (rc_d h).2.2.1.1
  -- a test of the loop; what comes behind it is next
  have stp : ∀ (w : List Nat) (t : Nat) (fb' : Nat → Nat → Int32) (K' : Nat × Nat × Nat) (P' : List Nat) (N' : sgN) (S' : sgS) (C' : sgC) (L' : sgL) (I' : Nat → Nat → Int32), w.length ≤ 40 → gv (K', P', (dp, w) :: E, N', S', M, C', O, L') → RC fb' vb (K', P', (dp, w) :: E, N', S', M, C', O, L') I' → P'.length ≤ 9999 → xs K P N S C L K' P' N' S' C' L' → tv N'.2.2 t → RM X Rf mb_135 (kr + 5) 0 [some (.ref 36), none, none, none] [] (K, P, E, N, S, M, C, O, L) na 7 [some (.ref 36), some (.int (nI w.length)), some (.int (nI (rt t))), none] [] (K', P', (dp, w) :: E, N', S', M, C', O, L') na → (w.length < 40 → t < 3328 → RM X Rf mb_135 (kr + 5) 0 [some (.ref 36), none, none, none] [] (K, P, E, N, S, M, C, O, L) na 54 [some (.ref 36), some (.int (nI w.length)), some (.int (nI (rt t))), none] [] (K', P', (dp, w) :: E, N', S', M, C', O, L') na → mj_rn X (mj_hd []) (mj_call X mj_P (mj_bi X) (d + 4)) mb_28 76 [some (.ref 28), some (.int (nI (em_t E))), some (.int (nI t)), some (.int (nI w.length))] [] (sh59, I', Lg, Rf, nc, ns) Q) → mj_rn X (mj_hd []) (mj_call X mj_P (mj_bi X) (d + 4)) mb_28 13 [some (.ref 28), some (.int (nI (em_t E))), some (.int (nI t)), some (.int (nI w.length))] [] (sh59, I', Lg, Rf, nc, ns) Q := by
    intro w t fb' K' P' N' S' C' L' I' hw40 hv' h' hp' hx ht hM next
    have hk : N'.2.2 ≤ 1036 := (gv_d hv').2.2.1.2.1
    have hk1 : 36 ≤ N'.2.2 := (gv_d hv').2.2.1.1
    have htl := tv_lt hk ht
    have rl := rt_lt hk hk1 ht
    have hcl : t < 3328 ↔ rt t < 65536 := by
      constructor
      · intro hh
        have : rt t = t := by
          unfold rt rb
          rw [if_neg (by omega), if_pos hh]
        omega
      · intro hh
        by_cases h2 : t < 3328
        · exact h2
        · have e := rt_cg hk hk1 ht (c := 0) (by decide)
          have := (rt_cg hk hk1 ht (c := rt t / 256 % 16) (by omega))
          exfalso
          rcases ht with ht' | ht'
          · have := (rb_lt hk hk1 ht').2.2.2.1 (by omega)
            rw [rt_tb hk ht'] at hh
            omega
          · have h3 := tb_lt hk ht'.2.2
            unfold rt at hh
            rw [if_pos (by omega)] at hh
            omega
    have hK2 := hx.2.1.2
    have hgw := gw_xs hw hx
    have i28' : I' 28 1 = nI (em_t E + w.length) := (rc_d h').2.2.1.1
    have i29 : ∀ i, i < w.length → I' 29 (em_t E + i) = nI (w.getD i 0) := (rc_d h').2.2.1.2.1
    have hKd : K'.2.2 = dp := by
      rw [hK2]
      exact hdp
    have hwb : ∀ i, i < w.length → w.getD i 0 < 256 := fun i hi => by
      have := (gv_d hv').2.1.1.2.2.2
      refine this _ ?_
      have : w.getD i 0 = w[i] := by
        simp [List.getD, List.getElem?_eq_getElem hi]
      rw [this]
      exact List.getElem_mem hi
    refine mj_blk rfl ?_
    simp +decide only [mjs_0, mjs_1, mjs_2, mjs_3, mjs_ble, true_and, Bool.false_eq_true, if_false, if_true, Nat.reduceAdd, Nat.reduceSub, Nat.reduceLeDiff, false_implies, true_implies, not_false_eq_true, not_true_eq_false, and_true]
    refine ⟨fun q => absurd q (nI_nlt (a := 40) (b := w.length) hw40 (by decide)), fun _ => mj_blk rfl ?_⟩
    simp +decide only [mjs_0, mjs_1, mjs_2, mjs_3, mjs_ble, true_and, Bool.false_eq_true, if_false, if_true, Nat.reduceAdd, Nat.reduceSub, Nat.reduceLeDiff, false_implies, true_implies, not_false_eq_true, not_true_eq_false, and_true, mc_sh, hr, mjs_up_at, mjs_up_c, mjs_up_f]
    refine cq_97 hR h' hv' ht ?_
    have hgp := gp_le hv' ht
    simp +decide only [mjs_0, mjs_1, mjs_2, mjs_3, mjs_ble, true_and, Bool.false_eq_true, if_false, if_true, Nat.reduceAdd, Nat.reduceSub, Nat.reduceLeDiff, false_implies, true_implies, not_false_eq_true, not_true_eq_false, and_true]
    by_cases e23 : gp S' t = 23
    · -- the name is there
      have hv0 : gv (K', P', E, N', S', M, C', O, L') := ⟨hv'.1, by show em_v K'.2.2 E; rw [hKd]; exact em_vm hE1 (by omega), hv'.2.2⟩
      have esub : nI (em_t E + w.length) - nI (em_t E) = nI w.length := by
        rw [pk_sub (by omega), Nat.add_sub_cancel_left]
      have r92 : RM X Rf mb_135 (kr + 5) 0 [some (.ref 36), none, none, none] [] (K, P, E, N, S, M, C, O, L) na 92 [some (.ref 36), some (.int (nI w.length)), none, none] [] (K', P', (dp, w) :: E, N', S', M, C', O, L') na := by
        refine rm_tr hM ?_
        intro H Lg d nc ns J Q hJ hA hq
        obtain ⟨D, hD, hDk⟩ : ∃ D, d + (kr + 5) = D + 5 ∧ kr ≤ D := ⟨d + kr, by omega, by omega⟩
        rw [hD]
        try rw [hD] at hq
        refine mj_blk rfl ?_
        simp +decide only [mjs_0, mjs_1, mjs_2, mjs_3, mjs_ble, true_and, Bool.false_eq_true, if_false, if_true, Nat.reduceAdd, Nat.reduceSub, Nat.reduceLeDiff, false_implies, true_implies, not_false_eq_true, not_true_eq_false, and_true, mm_sh, hm, mjs_up_at, mjs_up_c, mjs_up_f, (rr_d hJ).1.2.2.2]
        refine mj_blk rfl ?_
        simp +decide only [mjs_0, mjs_1, mjs_2, mjs_3, mjs_ble, true_and, Bool.false_eq_true, if_false, if_true, Nat.reduceAdd, Nat.reduceSub, Nat.reduceLeDiff, false_implies, true_implies, not_false_eq_true, not_true_eq_false, and_true, mm_sh, hm, mjs_up_at, mjs_up_c, mjs_up_f]
        refine rq_126 (p := 23) (k := 22) hM' hJ hv' ht (by decide) (by decide) (by decide) (fun _ => ?_) (fun e => absurd e23 e)
        simp +decide only [mjs_0, mjs_1, mjs_2, mjs_3, mjs_ble, true_and, Bool.false_eq_true, if_false, if_true, Nat.reduceAdd, Nat.reduceSub, Nat.reduceLeDiff, false_implies, true_implies, not_false_eq_true, not_true_eq_false, and_true, mm_sh, hm, mjs_up_at, mjs_up_c, mjs_up_f]
        refine mj_blk rfl ?_
        simp +decide only [mjs_0, mjs_1, mjs_2, mjs_3, mjs_ble, true_and, Bool.false_eq_true, if_false, if_true, Nat.reduceAdd, Nat.reduceSub, Nat.reduceLeDiff, false_implies, true_implies, not_false_eq_true, not_true_eq_false, and_true, mm_sh, hm, mjs_up_at, mjs_up_c, mjs_up_f, (rr_d hJ).1.2.2.2]
        exact mj_nv (hq H J hx_rf hJ trivial)
      -- the reference's end
      have rE : ∀ (x : Nat) (N2 : sgN) (s2 : Nat), (N2 = N' ∧ x < N'.2.2 ∧ fd_is N'.1 N'.2.1 (fun j => w.getD j 0) w.length x ∨ N2 = nN N' (fun j => w.getD j 0) w.length ∧ x = N'.2.2 ∧ N'.2.2 < 1036 ∧ ∀ i, i < N'.2.2 → ¬ fd_is N'.1 N'.2.1 (fun j => w.getD j 0) w.length i) → gv (K', P', E, N2, S', M, C', O, L') → x < N2.2.2 → RX X Rf (kr + 6) 135 [.ref 36] (K, P, E, N, S, M, C, O, L) na none (K', (65536 + x) :: P', E, N2, rlx S' x s2, M, C', O, L') na := by
        intro x N2 s2 hN2 hv2 hx2
        refine rx_in (z := 4) (by decide) rfl rfl rfl (rm_e r92 ?_)
        intro H Lg d nc ns J Q hJ hA hq
        obtain ⟨D, hD, hDk⟩ : ∃ D, d + (kr + 5) = D + 5 ∧ kr ≤ D := ⟨d + kr, by omega, by omega⟩
        rw [hD]
        try rw [hD] at hq
        refine mj_blk rfl ?_
        simp +decide only [mjs_0, mjs_1, mjs_2, mjs_3, mjs_ble, true_and, Bool.false_eq_true, if_false, if_true, Nat.reduceAdd, Nat.reduceSub, Nat.reduceLeDiff, false_implies, true_implies, not_false_eq_true, not_true_eq_false, and_true, mm_sh, hm, mjs_up_at, mjs_up_c, mjs_up_f]
        refine mj_nv (r_135s (D := D + 3) hM' hKd hdp40 hw40 hwb (fun J1 c1 c2 => ?_) w.length 0 _ (by omega) (rr_sp hJ (fun b q b1 b2 => mjs_up_c b1) (fun q hq => mjs_up_f hq)) mjs_up_at (fun q hq => absurd hq (Nat.not_lt_zero _)))
        refine mj_blk rfl ?_
        simp +decide only [mjs_0, mjs_1, mjs_2, mjs_3, mjs_ble, true_and, Bool.false_eq_true, if_false, if_true, Nat.reduceAdd, Nat.reduceSub, Nat.reduceLeDiff, false_implies, true_implies, not_false_eq_true, not_true_eq_false, and_true, mm_sh, hm, mjs_up_at, mjs_up_c, mjs_up_f]
        refine rq_110 hM' c1 hv' c2 (fun x' hx' hi => ?_) (fun hk36 hno J2 c3 => ?_) (fun hk36 hno J2 c3 => ?_)
        · rcases hN2 with ⟨rfl, y1, y2⟩ | ⟨_, _, _, y4⟩
          · have : x' = x := fd_un (gv_d hv').2.2.1 hx' y1 hi y2
            subst this
            simp +decide only [mjs_0, mjs_1, mjs_2, mjs_3, mjs_ble, true_and, Bool.false_eq_true, if_false, if_true, Nat.reduceAdd, Nat.reduceSub, Nat.reduceLeDiff, false_implies, true_implies, not_false_eq_true, not_true_eq_false, and_true, mm_sh, hm, mjs_up_at, mjs_up_c, mjs_up_f, (rr_d c1).1.2.2.2]
            rw [← rt_nm (x := x') (by omega)]
            exact mj_nv (r_135e (D := D + 2) (s' := s2) hM' hv2 (rr_Ep c1) hx2 (by omega) (fun J3 c4 => hq H J3 hx_rf c4 trivial))
          · exact absurd hi (y4 x' hx')
        · rcases hN2 with ⟨_, y1, y2⟩ | ⟨_, _, y3, _⟩
          · exact absurd y2 (hno x y1)
          · omega
        · rcases hN2 with ⟨_, y1, y2⟩ | ⟨rfl, rfl, _, _⟩
          · exact absurd y2 (hno x y1)
          · simp +decide only [mjs_0, mjs_1, mjs_2, mjs_3, mjs_ble, true_and, Bool.false_eq_true, if_false, if_true, Nat.reduceAdd, Nat.reduceSub, Nat.reduceLeDiff, false_implies, true_implies, not_false_eq_true, not_true_eq_false, and_true, mm_sh, hm, mjs_up_at, mjs_up_c, mjs_up_f, (rr_d c3).1.2.2.2]
            have e := rt_nm (x := N'.2.2) hk36
            rw [rp_id (Or.inr hk1)] at e
            rw [← e]
            exact mj_nv (r_135e (D := D + 2) (s' := s2) hM' hv2 (rr_Ep c3) hx2 (by omega) (fun J3 c4 => hq H J3 hx_rf c4 trivial))
      -- the class's end
      have cE : ∀ (x : Nat) (N2 : sgN) (I2 : Nat → Nat → Int32), (N2 = N' ∧ x < N'.2.2 ∧ fd_is N'.1 N'.2.1 (fun j => w.getD j 0) w.length x ∨ N2 = nN N' (fun j => w.getD j 0) w.length ∧ x = N'.2.2 ∧ N'.2.2 < 1036 ∧ ∀ i, i < N'.2.2 → ¬ fd_is N'.1 N'.2.1 (fun j => w.getD j 0) w.length i) → nx N' N2 → gv (K', P', E, N2, S', M, C', O, L') → x < N2.2.2 → RC fb' vb (K', P', E, N2, S', M, C', O, L') I2 → mj_rn X (mj_hd []) (mj_call X mj_P (mj_bi X) (d + 4)) mb_28 149 [some (.ref 28), none, none, some (.int (nI x))] [] (sh59, I2, Lg, Rf, nc, ns) Q := by
        intro x N2 I2 hN2 hnx hv2 hx2 c2
        have hk2 : N2.2.2 ≤ 1036 := (gv_d hv2).2.2.1.2.1
        have e1 : (768 : Int32) + nI x = nI (768 + x) := nI_add 768 x
        have e2 : (nI (768 + x)).toNatClampNeg = 768 + x := nI_clamp (by omega)
        have e3 : (65536 : Int32) + nI x = nI (65536 + x) := nI_add 65536 x
        have i10 : I2 10 (768 + x) = S'.1 S'.2.2.1 (768 + x) := rc_10 (rc_d c2).2.2.2.2.1 (by omega)
        have sv := hx.2.2.2.2.1.2.1
        have k52 := (rc_d c2).1.2.2.2
        have done : ∀ (s2 : Nat) (I3 : Nat → Nat → Int32), s2 ≤ S'.2.2.2 + 1 → RC fb' vb (K', P', E, N2, rlx S' x s2, M, C', O, L') I3 → mj_rn X (mj_hd []) (mj_call X mj_P (mj_bi X) (d + 4)) mb_28 184 [some (.ref 28), none, none, some (.int (nI x))] [] (sh59, I3, Lg, Rf, nc, ns) Q := by
          intro s2 I3 hs2 c3
          have hv3 : gv (K', P', E, N2, rlx S' x s2, M, C', O, L') := gv_rlx hv2 hx2
          refine mj_blk rfl ?_
          simp +decide only [mjs_0, mjs_1, mjs_2, mjs_3, mjs_ble, true_and, Bool.false_eq_true, if_false, if_true, Nat.reduceAdd, Nat.reduceSub, Nat.reduceLeDiff, false_implies, true_implies, not_false_eq_true, not_true_eq_false, and_true, mc_sh, hr, mjs_up_at, mjs_up_c, mjs_up_f, e3]
          refine cq_84 hR c3 (by omega) (fun I4 c4 _ => ?_)
          simp +decide only [mjs_0, mjs_1, mjs_2, mjs_3, mjs_ble, true_and, Bool.false_eq_true, if_false, if_true, Nat.reduceAdd, Nat.reduceSub, Nat.reduceLeDiff, false_implies, true_implies, not_false_eq_true, not_true_eq_false, and_true]
          have kk := hx.2.1.1
          have sA : sx (k0, K.2) S (K'.1 - 1, K'.2) S' := ⟨hx.2.2.2.2.1.1, by show S'.2.2.2 + k0 ≤ S.2.2.2 + (K'.1 - 1); omega, hx.2.2.2.2.1.2.2⟩
          have sB := sx_rlx (k0 := K'.1 - 1) (K := K') (S := S') (x := x) (s' := s2) hs2 (by omega)
          exact hQ1 fb' K' ((65536 + x) :: P') N2 (rlx S' x s2) C' L' I4 (gv_P1 hv3 (tv_nm hx2)) c4 (by rw [List.length_cons]; omega) ⟨nx_tr hx.1 hnx, hx.2.1, hx.2.2.2.1, sx_tr sA sB, hx.2.2.2.2.2⟩ (rE x N2 s2 hN2 hv2 hx2)
        refine mj_blk rfl ?_
        simp +decide only [mjs_0, mjs_1, mjs_2, mjs_3, mjs_ble, true_and, Bool.false_eq_true, if_false, if_true, Nat.reduceAdd, Nat.reduceSub, Nat.reduceLeDiff, false_implies, true_implies, not_false_eq_true, not_true_eq_false, and_true, mc_sh, hr, mjs_up_at, mjs_up_c, mjs_up_f, e1, e2, i10]
        refine ⟨nI_in (by omega) (by decide), ?_⟩
        by_cases e : S'.1 S'.2.2.1 (768 + x) = 0
        · refine ⟨fun q => absurd e q, fun _ => mj_blk rfl ?_⟩
          simp +decide only [mjs_0, mjs_1, mjs_2, mjs_3, mjs_ble, true_and, Bool.false_eq_true, if_false, if_true, Nat.reduceAdd, Nat.reduceSub, Nat.reduceLeDiff, false_implies, true_implies, not_false_eq_true, not_true_eq_false, and_true, mc_sh, hr, mjs_up_at, mjs_up_c, mjs_up_f, e1]
          refine c_92 ?_
          rw [show (1 : Int32) <<< (16 &&& 31) + 19 = nI 65555 from by decide]
          simp +decide only [mjs_0, mjs_1, mjs_2, mjs_3, mjs_ble, true_and, Bool.false_eq_true, if_false, if_true, Nat.reduceAdd, Nat.reduceSub, Nat.reduceLeDiff, false_implies, true_implies, not_false_eq_true, not_true_eq_false, and_true, mc_sh, hr, mjs_up_at, mjs_up_c, mjs_up_f]
          refine cq_98 (g := 0) hR c2 (by omega) (by omega) (Or.inl rfl) (fun I3 s2 hs2 c3 => ?_)
          simp +decide only [mjs_0, mjs_1, mjs_2, mjs_3, mjs_ble, true_and, Bool.false_eq_true, if_false, if_true, Nat.reduceAdd, Nat.reduceSub, Nat.reduceLeDiff, false_implies, true_implies, not_false_eq_true, not_true_eq_false, and_true]
          refine mj_nv (done s2 I3 hs2 ?_)
          unfold rlx
          rw [if_pos e]
          exact c3
        · refine ⟨fun _ => mj_nv (done S'.2.2.2 I2 (by omega) ?_), fun q => absurd e q⟩
          unfold rlx
          rw [if_neg e]
          exact c2
      simp +decide only [mjs_0, mjs_1, mjs_2, mjs_3, mjs_ble, true_and, Bool.false_eq_true, if_false, if_true, Nat.reduceAdd, Nat.reduceSub, Nat.reduceLeDiff, false_implies, true_implies, not_false_eq_true, not_true_eq_false, and_true, e23]
      refine mj_blk rfl ?_
      simp +decide only [mjs_0, mjs_1, mjs_2, mjs_3, mjs_ble, true_and, Bool.false_eq_true, if_false, if_true, Nat.reduceAdd, Nat.reduceSub, Nat.reduceLeDiff, false_implies, true_implies, not_false_eq_true, not_true_eq_false, and_true, mc_sh, hr, mjs_up_at, mjs_up_c, mjs_up_f, i28', esub]
      refine cq_57 (len := w.length) (w := fun j => w.getD j 0) (r := 29) (rn := 1600) (a := em_t E) hR h' hv' rfl (by decide) (by omega) hw40 (fun j hj => ⟨i29 j hj, hwb j hj⟩) (fun x hx' hi => ?_) (fun hk36 hno => ?_) (fun hk36 hno I2 c2 _ => ?_)
      · simp +decide only [mjs_0, mjs_1, mjs_2, mjs_3, mjs_ble, true_and, Bool.false_eq_true, if_false, if_true, Nat.reduceAdd, Nat.reduceSub, Nat.reduceLeDiff, false_implies, true_implies, not_false_eq_true, not_true_eq_false, and_true, mc_sh, hr, mjs_up_at, mjs_up_c, mjs_up_f]
        refine ⟨fun _ => mj_nv (cE x N' _ (Or.inl ⟨rfl, hx', hi⟩) nx_rf hv0 hx' (rc_Ep h')), fun q => absurd (nI_pos' (n := x) (by omega)) q⟩
      · simp +decide only [mjs_0, mjs_1, mjs_2, mjs_3, mjs_ble, true_and, Bool.false_eq_true, if_false, if_true, Nat.reduceAdd, Nat.reduceSub, Nat.reduceLeDiff, false_implies, true_implies, not_false_eq_true, not_true_eq_false, and_true, mc_sh, hr, mjs_up_at, mjs_up_c, mjs_up_f]
        refine mj_blk rfl ?_
        simp +decide only [mjs_0, mjs_1, mjs_2, mjs_3, mjs_ble, true_and, Bool.false_eq_true, if_false, if_true, Nat.reduceAdd, Nat.reduceSub, Nat.reduceLeDiff, false_implies, true_implies, not_false_eq_true, not_true_eq_false, and_true, mc_sh, hr, mjs_up_at, mjs_up_c, mjs_up_f]
        refine c_80 s59_1 hr' ?_
        simp +decide only [mjs_0, mjs_1, mjs_2, mjs_3, mjs_ble, true_and, Bool.false_eq_true, if_false, if_true, Nat.reduceAdd, Nat.reduceSub, Nat.reduceLeDiff, false_implies, true_implies, not_false_eq_true, not_true_eq_false, and_true]
        refine qF _ _ (rc_f (fb := fb') hv0 (rc_Ep h')) (rm_f r92 ?_)
        intro H Lg d nc ns J Q hJ hA hq
        obtain ⟨D, hD, hDk⟩ : ∃ D, d + (kr + 5) = D + 5 ∧ kr ≤ D := ⟨d + kr, by omega, by omega⟩
        rw [hD]
        try rw [hD] at hq
        refine mj_blk rfl ?_
        simp +decide only [mjs_0, mjs_1, mjs_2, mjs_3, mjs_ble, true_and, Bool.false_eq_true, if_false, if_true, Nat.reduceAdd, Nat.reduceSub, Nat.reduceLeDiff, false_implies, true_implies, not_false_eq_true, not_true_eq_false, and_true, mm_sh, hm, mjs_up_at, mjs_up_c, mjs_up_f]
        refine mj_nv (r_135s (D := D + 3) hM' hKd hdp40 hw40 hwb (fun J1 c1 c2 => ?_) w.length 0 _ (by omega) (rr_sp hJ (fun b q b1 b2 => mjs_up_c b1) (fun q hq => mjs_up_f hq)) mjs_up_at (fun q hq => absurd hq (Nat.not_lt_zero _)))
        refine mj_blk rfl ?_
        simp +decide only [mjs_0, mjs_1, mjs_2, mjs_3, mjs_ble, true_and, Bool.false_eq_true, if_false, if_true, Nat.reduceAdd, Nat.reduceSub, Nat.reduceLeDiff, false_implies, true_implies, not_false_eq_true, not_true_eq_false, and_true, mm_sh, hm, mjs_up_at, mjs_up_c, mjs_up_f]
        refine rq_110 hM' c1 hv' c2 (fun x' hx' hi => absurd hi (hno x' hx')) (fun _ _ J2 c3 => ?_) (fun h36 _ J2 c3 => absurd h36 (by omega))
        simp +decide only [mjs_0, mjs_1, mjs_2, mjs_3, mjs_ble, true_and, Bool.false_eq_true, if_false, if_true, Nat.reduceAdd, Nat.reduceSub, Nat.reduceLeDiff, false_implies, true_implies, not_false_eq_true, not_true_eq_false, and_true, mm_sh, hm, mjs_up_at, mjs_up_c, mjs_up_f]
        refine ⟨fun _ => mj_blk rfl ?_, fun q => absurd (rd_ne c3) q⟩
        simp +decide only [mjs_0, mjs_1, mjs_2, mjs_3, mjs_ble, true_and, Bool.false_eq_true, if_false, if_true, Nat.reduceAdd, Nat.reduceSub, Nat.reduceLeDiff, false_implies, true_implies, not_false_eq_true, not_true_eq_false, and_true, mm_sh, hm, mjs_up_at, mjs_up_c, mjs_up_f]
        refine r_118e ?_
        simp +decide only [mjs_0, mjs_1, mjs_2, mjs_3, mjs_ble, true_and, Bool.false_eq_true, if_false, if_true, Nat.reduceAdd, Nat.reduceSub, Nat.reduceLeDiff, false_implies, true_implies, not_false_eq_true, not_true_eq_false, and_true, mm_sh, hm, mjs_up_at, mjs_up_c, mjs_up_f]
        exact hq J2 c3
      · have hvn := nN_gv hv0 hk36 hw40 (fun j hj => hwb j hj) hno
        simp +decide only [mjs_0, mjs_1, mjs_2, mjs_3, mjs_ble, true_and, Bool.false_eq_true, if_false, if_true, Nat.reduceAdd, Nat.reduceSub, Nat.reduceLeDiff, false_implies, true_implies, not_false_eq_true, not_true_eq_false, and_true, mc_sh, hr, mjs_up_at, mjs_up_c, mjs_up_f]
        refine ⟨fun _ => mj_nv (cE N'.2.2 _ _ (Or.inr ⟨rfl, rfl, hk36, hno⟩) nN_nx hvn (Nat.lt_succ_self _) (rc_Ep c2)), fun q => absurd (nI_pos' (n := N'.2.2) (by omega)) q⟩
    · have n23 : ¬ nI (gp S' t) = 23 := fun q => e23 ((nI_eq (by omega) (by decide)).mp (show nI (gp S' t) = nI 23 from q))
      have r24 : RM X Rf mb_135 (kr + 5) 0 [some (.ref 36), none, none, none] [] (K, P, E, N, S, M, C, O, L) na 24 [some (.ref 36), some (.int (nI w.length)), some (.int (nI (rt t))), none] [] (K', P', (dp, w) :: E, N', S', M, C', O, L') na := by
        refine rm_tr hM ?_
        intro H Lg d nc ns J Q hJ hA hq
        obtain ⟨D, hD, hDk⟩ : ∃ D, d + (kr + 5) = D + 5 ∧ kr ≤ D := ⟨d + kr, by omega, by omega⟩
        rw [hD]
        try rw [hD] at hq
        refine mj_blk rfl ?_
        simp +decide only [mjs_0, mjs_1, mjs_2, mjs_3, mjs_ble, true_and, Bool.false_eq_true, if_false, if_true, Nat.reduceAdd, Nat.reduceSub, Nat.reduceLeDiff, false_implies, true_implies, not_false_eq_true, not_true_eq_false, and_true, mm_sh, hm, mjs_up_at, mjs_up_c, mjs_up_f, (rr_d hJ).1.2.2.2]
        refine mj_blk rfl ?_
        simp +decide only [mjs_0, mjs_1, mjs_2, mjs_3, mjs_ble, true_and, Bool.false_eq_true, if_false, if_true, Nat.reduceAdd, Nat.reduceSub, Nat.reduceLeDiff, false_implies, true_implies, not_false_eq_true, not_true_eq_false, and_true, mm_sh, hm, mjs_up_at, mjs_up_c, mjs_up_f]
        refine rq_126 (p := 23) (k := 22) hM' hJ hv' ht (by decide) (by decide) (by decide) (fun e => absurd e e23) (fun _ => ?_)
        simp +decide only [mjs_0, mjs_1, mjs_2, mjs_3, mjs_ble, true_and, Bool.false_eq_true, if_false, if_true, Nat.reduceAdd, Nat.reduceSub, Nat.reduceLeDiff, false_implies, true_implies, not_false_eq_true, not_true_eq_false, and_true, mm_sh, hm, mjs_up_at, mjs_up_c, mjs_up_f]
        exact mj_nv (hq H J hx_rf hJ trivial)
      refine ⟨fun q => absurd q n23, fun _ => mj_blk rfl ?_⟩
      simp +decide only [mjs_0, mjs_1, mjs_2, mjs_3, mjs_ble, true_and, Bool.false_eq_true, if_false, if_true, Nat.reduceAdd, Nat.reduceSub, Nat.reduceLeDiff, false_implies, true_implies, not_false_eq_true, not_true_eq_false, and_true]
      refine c_188 (by omega) ?_
      by_cases hc : t < 3328
      · have r40 : RM X Rf mb_135 (kr + 5) 0 [some (.ref 36), none, none, none] [] (K, P, E, N, S, M, C, O, L) na 40 [some (.ref 36), some (.int (nI w.length)), some (.int (nI (rt t))), none] [] (K', P', (dp, w) :: E, N', S', M, C', O, L') na := by
          refine rm_tr r24 ?_
          intro H Lg d nc ns J Q hJ hA hq
          obtain ⟨D, hD, hDk⟩ : ∃ D, d + (kr + 5) = D + 5 ∧ kr ≤ D := ⟨d + kr, by omega, by omega⟩
          rw [hD]
          try rw [hD] at hq
          refine mj_blk rfl ?_
          simp +decide only [mjs_0, mjs_1, mjs_2, mjs_3, mjs_ble, true_and, Bool.false_eq_true, if_false, if_true, Nat.reduceAdd, Nat.reduceSub, Nat.reduceLeDiff, false_implies, true_implies, not_false_eq_true, not_true_eq_false, and_true, mm_sh, hm, mjs_up_at, mjs_up_c, mjs_up_f]
          refine r_119 (by omega) ?_
          rw [if_pos (hcl.mp hc)]
          simp +decide only [mjs_0, mjs_1, mjs_2, mjs_3, mjs_ble, true_and, Bool.false_eq_true, if_false, if_true, Nat.reduceAdd, Nat.reduceSub, Nat.reduceLeDiff, false_implies, true_implies, not_false_eq_true, not_true_eq_false, and_true, mm_sh, hm, mjs_up_at, mjs_up_c, mjs_up_f]
          exact mj_nv (hq H J hx_rf hJ trivial)
        rw [if_pos hc]
        simp +decide only [mjs_0, mjs_1, mjs_2, mjs_3, mjs_ble, true_and, Bool.false_eq_true, if_false, if_true, Nat.reduceAdd, Nat.reduceSub, Nat.reduceLeDiff, false_implies, true_implies, not_false_eq_true, not_true_eq_false, and_true]
        refine mj_blk rfl ?_
        simp +decide only [mjs_0, mjs_1, mjs_2, mjs_3, mjs_ble, true_and, Bool.false_eq_true, if_false, if_true, Nat.reduceAdd, Nat.reduceSub, Nat.reduceLeDiff, false_implies, true_implies, not_false_eq_true, not_true_eq_false, and_true]
        by_cases e40 : w.length = 40
        · have e40' : nI w.length = 40 := by
            rw [e40]
            rfl
          refine ⟨fun _ => mj_blk rfl ?_, fun q => absurd e40' q⟩
          simp +decide only [mjs_0, mjs_1, mjs_2, mjs_3, mjs_ble, true_and, Bool.false_eq_true, if_false, if_true, Nat.reduceAdd, Nat.reduceSub, Nat.reduceLeDiff, false_implies, true_implies, not_false_eq_true, not_true_eq_false, and_true, mc_sh, hr, mjs_up_at, mjs_up_c, mjs_up_f]
          refine c_80 s59_1 hr' ?_
          simp +decide only [mjs_0, mjs_1, mjs_2, mjs_3, mjs_ble, true_and, Bool.false_eq_true, if_false, if_true, Nat.reduceAdd, Nat.reduceSub, Nat.reduceLeDiff, false_implies, true_implies, not_false_eq_true, not_true_eq_false, and_true]
          refine qF _ _ (rc_f (fb := fb') hv' h') (rm_f r40 ?_)
          intro H Lg d nc ns J Q hJ hA hq
          obtain ⟨D, hD, hDk⟩ : ∃ D, d + (kr + 5) = D + 5 ∧ kr ≤ D := ⟨d + kr, by omega, by omega⟩
          rw [hD]
          try rw [hD] at hq
          refine mj_blk rfl ?_
          simp +decide only [mjs_0, mjs_1, mjs_2, mjs_3, mjs_ble, true_and, Bool.false_eq_true, if_false, if_true, Nat.reduceAdd, Nat.reduceSub, Nat.reduceLeDiff, false_implies, true_implies, not_false_eq_true, not_true_eq_false, and_true, mm_sh, hm, mjs_up_at, mjs_up_c, mjs_up_f, e40']
          refine mj_blk rfl ?_
          simp +decide only [mjs_0, mjs_1, mjs_2, mjs_3, mjs_ble, true_and, Bool.false_eq_true, if_false, if_true, Nat.reduceAdd, Nat.reduceSub, Nat.reduceLeDiff, false_implies, true_implies, not_false_eq_true, not_true_eq_false, and_true, mm_sh, hm, mjs_up_at, mjs_up_c, mjs_up_f]
          refine c_106 s59_36 ?_
          rw [if_pos (rr_d hJ).1.2.2.2]
          simp +decide only [mjs_0, mjs_1, mjs_2, mjs_3, mjs_ble, true_and, Bool.false_eq_true, if_false, if_true, Nat.reduceAdd, Nat.reduceSub, Nat.reduceLeDiff, false_implies, true_implies, not_false_eq_true, not_true_eq_false, and_true, mm_sh, hm, mjs_up_at, mjs_up_c, mjs_up_f]
          exact mj_nv (f_135b (D := D + 2) (y := 40) hM' (rr_f (f := 2) (by decide) (by decide) hJ) hq)
        · have ne40 : ¬ nI w.length = 40 := fun q => e40 ((nI_eq (b := 40) (by omega) (by decide)).mp q)
          refine ⟨fun q => absurd q ne40, fun _ => mj_blk rfl ?_⟩
          simp +decide only [mjs_0, mjs_1, mjs_2, mjs_3, mjs_ble, true_and, Bool.false_eq_true, if_false, if_true, Nat.reduceAdd, Nat.reduceSub, Nat.reduceLeDiff, false_implies, true_implies, not_false_eq_true, not_true_eq_false, and_true, mc_sh, hr, mjs_up_at, mjs_up_c, mjs_up_f, i28']
          refine ⟨fun _ => mj_nv (next (by omega) hc (rm_tr r40 ?_)), fun q => absurd (nI_lt (a := em_t E + w.length) (b := 1600) (by omega) (by decide)) q⟩
          intro H Lg d nc ns J Q hJ hA hq
          obtain ⟨D, hD, hDk⟩ : ∃ D, d + (kr + 5) = D + 5 ∧ kr ≤ D := ⟨d + kr, by omega, by omega⟩
          rw [hD]
          try rw [hD] at hq
          refine mj_blk rfl ?_
          simp +decide only [mjs_0, mjs_1, mjs_2, mjs_3, mjs_ble, true_and, Bool.false_eq_true, if_false, if_true, Nat.reduceAdd, Nat.reduceSub, Nat.reduceLeDiff, false_implies, true_implies, not_false_eq_true, not_true_eq_false, and_true, mm_sh, hm, mjs_up_at, mjs_up_c, mjs_up_f]
          exact ⟨fun _ => mj_nv (hq H J hx_rf hJ trivial), fun q => absurd ne40 q⟩
      · rw [if_neg hc]
        simp +decide only [mjs_0, mjs_1, mjs_2, mjs_3, mjs_ble, true_and, Bool.false_eq_true, if_false, if_true, Nat.reduceAdd, Nat.reduceSub, Nat.reduceLeDiff, false_implies, true_implies, not_false_eq_true, not_true_eq_false, and_true]
        refine mj_blk rfl ?_
        simp +decide only [mjs_0, mjs_1, mjs_2, mjs_3, mjs_ble, true_and, Bool.false_eq_true, if_false, if_true, Nat.reduceAdd, Nat.reduceSub, Nat.reduceLeDiff, false_implies, true_implies, not_false_eq_true, not_true_eq_false, and_true, mc_sh, hr, mjs_up_at, mjs_up_c, mjs_up_f]
        refine c_80 s59_1 hr' ?_
        simp +decide only [mjs_0, mjs_1, mjs_2, mjs_3, mjs_ble, true_and, Bool.false_eq_true, if_false, if_true, Nat.reduceAdd, Nat.reduceSub, Nat.reduceLeDiff, false_implies, true_implies, not_false_eq_true, not_true_eq_false, and_true]
        refine qF _ _ (rc_f (fb := fb') hv' h') (rm_f r24 ?_)
        intro H Lg d nc ns J Q hJ hA hq
        obtain ⟨D, hD, hDk⟩ : ∃ D, d + (kr + 5) = D + 5 ∧ kr ≤ D := ⟨d + kr, by omega, by omega⟩
        rw [hD]
        try rw [hD] at hq
        refine mj_blk rfl ?_
        simp +decide only [mjs_0, mjs_1, mjs_2, mjs_3, mjs_ble, true_and, Bool.false_eq_true, if_false, if_true, Nat.reduceAdd, Nat.reduceSub, Nat.reduceLeDiff, false_implies, true_implies, not_false_eq_true, not_true_eq_false, and_true, mm_sh, hm, mjs_up_at, mjs_up_c, mjs_up_f]
        refine r_119 (by omega) ?_
        rw [if_neg (fun hh => hc (hcl.mpr hh))]
        simp +decide only [mjs_0, mjs_1, mjs_2, mjs_3, mjs_ble, true_and, Bool.false_eq_true, if_false, if_true, Nat.reduceAdd, Nat.reduceSub, Nat.reduceLeDiff, false_implies, true_implies, not_false_eq_true, not_true_eq_false, and_true, mm_sh, hm, mjs_up_at, mjs_up_c, mjs_up_f]
        refine mj_blk rfl ?_
        simp +decide only [mjs_0, mjs_1, mjs_2, mjs_3, mjs_ble, true_and, Bool.false_eq_true, if_false, if_true, Nat.reduceAdd, Nat.reduceSub, Nat.reduceLeDiff, false_implies, true_implies, not_false_eq_true, not_true_eq_false, and_true, mm_sh, hm, mjs_up_at, mjs_up_c, mjs_up_f]
        refine c_106 s59_36 ?_
        rw [if_pos (rr_d hJ).1.2.2.2]
        simp +decide only [mjs_0, mjs_1, mjs_2, mjs_3, mjs_ble, true_and, Bool.false_eq_true, if_false, if_true, Nat.reduceAdd, Nat.reduceSub, Nat.reduceLeDiff, false_implies, true_implies, not_false_eq_true, not_true_eq_false, and_true, mm_sh, hm, mjs_up_at, mjs_up_c, mjs_up_f]
        exact mj_nv (f_135b (D := D + 2) (y := nI w.length) hM' (rr_f (f := 6) (by decide) (by decide) hJ) hq)
  have loop : ∀ (j : Nat) (w : List Nat) (t : Nat) (fb' : Nat → Nat → Int32) (K' : Nat × Nat × Nat) (P' : List Nat) (N' : sgN) (S' : sgS) (C' : sgC) (L' : sgL) (I' : Nat → Nat → Int32), w.length + j = 40 → gv (K', P', (dp, w) :: E, N', S', M, C', O, L') → RC fb' vb (K', P', (dp, w) :: E, N', S', M, C', O, L') I' → P'.length ≤ 9999 → xs K P N S C L K' P' N' S' C' L' → tv N'.2.2 t → RM X Rf mb_135 (kr + 5) 0 [some (.ref 36), none, none, none] [] (K, P, E, N, S, M, C, O, L) na 7 [some (.ref 36), some (.int (nI w.length)), some (.int (nI (rt t))), none] [] (K', P', (dp, w) :: E, N', S', M, C', O, L') na → mj_rn X (mj_hd []) (mj_call X mj_P (mj_bi X) (d + 4)) mb_28 13 [some (.ref 28), some (.int (nI (em_t E))), some (.int (nI t)), some (.int (nI w.length))] [] (sh59, I', Lg, Rf, nc, ns) Q := by
    intro j
    induction j with
    | zero =>
      intro w t fb' K' P' N' S' C' L' I' hwj hv' h' hp' hx ht hM
      exact stp w t fb' K' P' N' S' C' L' I' (by omega) hv' h' hp' hx ht hM (fun hh => absurd hh (by omega))
    | succ j ih =>
      intro w t fb' K' P' N' S' C' L' I' hwj hv' h' hp' hx ht hM
      refine stp w t fb' K' P' N' S' C' L' I' (by omega) hv' h' hp' hx ht hM (fun hw40 hc r54 => ?_)
      have hk : N'.2.2 ≤ 1036 := (gv_d hv').2.2.1.2.1
      have hKd : K'.2.2 = dp := by
        rw [hx.2.1.2]
        exact hdp
      have i28' : I' 28 1 = nI (em_t E + w.length) := (rc_d h').2.2.1.1
      have e1 : (nI (em_t E + w.length)).toNatClampNeg = em_t E + w.length := nI_clamp (by omega)
      have h2 := rc_Ea (c := t % 256) h'
      have hv2 : gv (K', P', (dp, w ++ [t % 256]) :: E, N', S', M, C', O, L') := by
        refine ⟨hv'.1, ⟨⟨h1, by show dp ≤ K'.2.2; omega, by rw [app_len]; omega, fun c hc => ?_⟩, hE1⟩, hv'.2.2⟩
        have hc' : c ∈ w ++ [t % 256] := hc
        rcases List.mem_append.mp hc' with hh | hh
        · exact (gv_d hv').2.1.1.2.2.2 c hh
        · rw [List.mem_singleton] at hh
          omega
      have hgw := gw_xs hw hx
      refine mj_blk rfl ?_
      simp +decide only [mjs_0, mjs_1, mjs_2, mjs_3, mjs_ble, true_and, Bool.false_eq_true, if_false, if_true, Nat.reduceAdd, Nat.reduceSub, Nat.reduceLeDiff, false_implies, true_implies, not_false_eq_true, not_true_eq_false, and_true, mc_sh, hr, mjs_up_at, mjs_up_c, mjs_up_f, i28', e1, bt_255, nI_1]
      refine ⟨nI_in (by omega) (by decide), ?_⟩
      refine xd_n hX (by omega) (by rw [hKd]; exact hn) hr' hv2 hgw (by omega) h2 (fun fb2 K2 P2 N2 S2 C2 L2 I2 t2 a1 a2 a3 a4 a5 a6 a7 a8 => ?_) (fun g2 I2 a1 a2 => ?_)
      · simp +decide only [mjs_0, mjs_1, mjs_2, mjs_3, mjs_ble, true_and, Bool.false_eq_true, if_false, if_true, Nat.reduceAdd, Nat.reduceSub, Nat.reduceLeDiff, false_implies, true_implies, not_false_eq_true, not_true_eq_false, and_true, nI_1]
        have z := ih (w ++ [t % 256]) t2 fb2 K2 P2 N2 S2 C2 L2 I2 (by rw [app_len]; omega) a1 a2 a3 (xs_tr hx a4) a6 (rm_tr r54 ?_)
        · rw [app_len] at z
          exact mj_nv z
        · intro H Lg d nc ns J Q hJ hA hq
          obtain ⟨D, hD, hDk⟩ : ∃ D, d + (kr + 5) = D + 5 ∧ kr ≤ D := ⟨d + kr, by omega, by omega⟩
          rw [hD]
          try rw [hD] at hq
          have j38 : J 36 38 = nI dp := (rr_d hJ).1.2.2.1.trans (by rw [hKd])
          have f1 : (41 : Int32) * nI dp = nI (41 * dp) := pk_mul 41 dp
          have f2 : (nI (41 * dp + w.length)).toNatClampNeg = 41 * dp + w.length := nI_clamp (by omega)
          have ert : rt t = t := by
            unfold rt rb
            rw [if_neg (by omega), if_pos hc]
          have f3 : nI (rt t) - nI (rt t) / 256 * 256 = nI (t % 256) := by
            rw [ert]
            exact pk_rem (d := 256) (by omega) (by decide) (by decide)
          rw [app_len] at hq
          refine mj_blk rfl ?_
          simp +decide only [mjs_0, mjs_1, mjs_2, mjs_3, mjs_ble, true_and, Bool.false_eq_true, if_false, if_true, Nat.reduceAdd, Nat.reduceSub, Nat.reduceLeDiff, false_implies, true_implies, not_false_eq_true, not_true_eq_false, and_true, mm_sh, hm, mjs_up_at, mjs_up_c, mjs_up_f, j38, f1, nI_add, f2, f3, nI_1]
          refine ⟨nI_in (by omega) (by decide), mj_blk rfl ?_⟩
          simp +decide only [mjs_0, mjs_1, mjs_2, mjs_3, mjs_ble, true_and, Bool.false_eq_true, if_false, if_true, Nat.reduceAdd, Nat.reduceSub, Nat.reduceLeDiff, false_implies, true_implies, not_false_eq_true, not_true_eq_false, and_true, mm_sh, hm, mjs_up_at, mjs_up_c, mjs_up_f]
          refine rx_at a8 (by omega) (rr_Ea h1 hE1 hJ) trivial (fun H1 J1 c1 c2 _ => ?_)
          simp +decide only [mjs_0, mjs_1, mjs_2, mjs_3, mjs_ble, true_and, Bool.false_eq_true, if_false, if_true, Nat.reduceAdd, Nat.reduceSub, Nat.reduceLeDiff, false_implies, true_implies, not_false_eq_true, not_true_eq_false, and_true, mm_sh, hm, mjs_up_at, mjs_up_c, mjs_up_f]
          exact mj_nv (hq H1 J1 c1 c2 trivial)
      · simp +decide only [mjs_0, mjs_1, mjs_2, mjs_3, mjs_ble, true_and, Bool.false_eq_true, if_false, if_true, Nat.reduceAdd, Nat.reduceSub, Nat.reduceLeDiff, false_implies, true_implies, not_false_eq_true, not_true_eq_false, and_true]
        refine qF g2 I2 a1 (rm_f r54 ?_)
        intro H Lg d nc ns J Q hJ hA hq
        obtain ⟨D, hD, hDk⟩ : ∃ D, d + (kr + 5) = D + 5 ∧ kr ≤ D := ⟨d + kr, by omega, by omega⟩
        rw [hD]
        try rw [hD] at hq
        have j38 : J 36 38 = nI dp := (rr_d hJ).1.2.2.1.trans (by rw [hKd])
        have f1 : (41 : Int32) * nI dp = nI (41 * dp) := pk_mul 41 dp
        have f2 : (nI (41 * dp + w.length)).toNatClampNeg = 41 * dp + w.length := nI_clamp (by omega)
        have ert : rt t = t := by
          unfold rt rb
          rw [if_neg (by omega), if_pos hc]
        have f3 : nI (rt t) - nI (rt t) / 256 * 256 = nI (t % 256) := by
          rw [ert]
          exact pk_rem (d := 256) (by omega) (by decide) (by decide)
        refine mj_blk rfl ?_
        simp +decide only [mjs_0, mjs_1, mjs_2, mjs_3, mjs_ble, true_and, Bool.false_eq_true, if_false, if_true, Nat.reduceAdd, Nat.reduceSub, Nat.reduceLeDiff, false_implies, true_implies, not_false_eq_true, not_true_eq_false, and_true, mm_sh, hm, mjs_up_at, mjs_up_c, mjs_up_f, j38, f1, nI_add, f2, f3, nI_1]
        refine ⟨nI_in (by omega) (by decide), mj_blk rfl ?_⟩
        simp +decide only [mjs_0, mjs_1, mjs_2, mjs_3, mjs_ble, true_and, Bool.false_eq_true, if_false, if_true, Nat.reduceAdd, Nat.reduceSub, Nat.reduceLeDiff, false_implies, true_implies, not_false_eq_true, not_true_eq_false, and_true, mm_sh, hm, mjs_up_at, mjs_up_c, mjs_up_f]
        refine ry_at a2 (by omega) (rr_Ea h1 hE1 hJ) trivial (fun J1 c1 => ?_)
        simp +decide only [mjs_0, mjs_1, mjs_2, mjs_3, mjs_ble, true_and, Bool.false_eq_true, if_false, if_true, Nat.reduceAdd, Nat.reduceSub, Nat.reduceLeDiff, false_implies, true_implies, not_false_eq_true, not_true_eq_false, and_true, mm_sh, hm, mjs_up_at, mjs_up_c, mjs_up_f]
        exact mj_nv (f_135 (D := D + 3) hM' c1 hq)
  have h0 := rc_E0 (dp := dp) h
  have hv0 : gv (K, P, (dp, []) :: E, N, S, M, C, O, L) := ⟨hv.1, ⟨⟨h1, by show dp ≤ K.2.2; omega, Nat.zero_le _, fun c hc => absurd hc (by simp)⟩, hE1⟩, hv.2.2⟩
  refine mj_enter (z := (4, [], mb_28)) (by decide) rfl rfl ?_
  refine mj_blk rfl ?_
  simp +decide only [mjs_0, mjs_1, mjs_2, mjs_3, mjs_ble, true_and, Bool.false_eq_true, if_false, if_true, Nat.reduceAdd, Nat.reduceSub, Nat.reduceLeDiff, false_implies, true_implies, not_false_eq_true, not_true_eq_false, and_true, mc_sh, hr, mjs_up_at, mjs_up_c, mjs_up_f, i28]
  refine xd_n hX (by omega) (by rw [hdp]; exact hn) hr' hv0 hw hp h0 (fun fb2 K2 P2 N2 S2 C2 L2 I2 t2 a1 a2 a3 a4 a5 a6 a7 a8 => ?_) (fun g2 I2 a1 a2 => ?_)
  · simp +decide only [mjs_0, mjs_1, mjs_2, mjs_3, mjs_ble, true_and, Bool.false_eq_true, if_false, if_true, Nat.reduceAdd, Nat.reduceSub, Nat.reduceLeDiff, false_implies, true_implies, not_false_eq_true, not_true_eq_false, and_true]
    refine mj_nv (loop 40 [] t2 fb2 K2 P2 N2 S2 C2 L2 I2 rfl a1 a2 a3 a4 a6 ?_)
    intro H Lg d nc ns J Q hJ hA hq
    obtain ⟨D, hD, hDk⟩ : ∃ D, d + (kr + 5) = D + 5 ∧ kr ≤ D := ⟨d + kr, by omega, by omega⟩
    rw [hD]
    try rw [hD] at hq
    refine mj_blk rfl ?_
    simp +decide only [mjs_0, mjs_1, mjs_2, mjs_3, mjs_ble, true_and, Bool.false_eq_true, if_false, if_true, Nat.reduceAdd, Nat.reduceSub, Nat.reduceLeDiff, false_implies, true_implies, not_false_eq_true, not_true_eq_false, and_true, mm_sh, hm, mjs_up_at, mjs_up_c, mjs_up_f]
    refine rx_at a8 (by omega) (rr_E0 hJ) trivial (fun H1 J1 c1 c2 _ => ?_)
    simp +decide only [mjs_0, mjs_1, mjs_2, mjs_3, mjs_ble, true_and, Bool.false_eq_true, if_false, if_true, Nat.reduceAdd, Nat.reduceSub, Nat.reduceLeDiff, false_implies, true_implies, not_false_eq_true, not_true_eq_false, and_true, mm_sh, hm, mjs_up_at, mjs_up_c, mjs_up_f]
    exact mj_nv (hq H1 J1 c1 c2 trivial)
  · simp +decide only [mjs_0, mjs_1, mjs_2, mjs_3, mjs_ble, true_and, Bool.false_eq_true, if_false, if_true, Nat.reduceAdd, Nat.reduceSub, Nat.reduceLeDiff, false_implies, true_implies, not_false_eq_true, not_true_eq_false, and_true]
    refine qF g2 I2 a1 ?_
    intro H Lg d nc ns J Q hJ hA hq
    obtain ⟨D, hD, hDk⟩ : ∃ D, d + (kr + 5) = D + 5 ∧ kr ≤ D := ⟨d + kr, by omega, by omega⟩
    rw [hD]
    try rw [hD] at hq
    refine mj_blk rfl ?_
    simp +decide only [mjs_0, mjs_1, mjs_2, mjs_3, mjs_ble, true_and, Bool.false_eq_true, if_false, if_true, Nat.reduceAdd, Nat.reduceSub, Nat.reduceLeDiff, false_implies, true_implies, not_false_eq_true, not_true_eq_false, and_true, mm_sh, hm, mjs_up_at, mjs_up_c, mjs_up_f]
    refine ry_at a2 (by omega) (rr_E0 hJ) trivial (fun J1 c1 => ?_)
    simp +decide only [mjs_0, mjs_1, mjs_2, mjs_3, mjs_ble, true_and, Bool.false_eq_true, if_false, if_true, Nat.reduceAdd, Nat.reduceSub, Nat.reduceLeDiff, false_implies, true_implies, not_false_eq_true, not_true_eq_false, and_true, mm_sh, hm, mjs_up_at, mjs_up_c, mjs_up_f]
    exact mj_nv (f_135 (D := D + 3) hM' c1 hq)
end MJCS
