/-! AN ARGUMENT WITH DELIMITERS, in both -/
section MJUT
variable {X : mj_X} {d nc ns : Nat} {Q : mj_Q} {I I' J J' H : Nat → Nat → Int32} {Lg : Nat → Nat → Int64} {Rf : Nat → Nat → Option Nat} {fb : Nat → Nat → Int32} {vb : Nat → Int32} {K : Nat × Nat × Nat} {P : List Nat} {E : sgE} {N : sgN} {S : sgS} {M : sgM} {C : sgC} {O : sgO} {L L' : sgL} {t n bg fi : Nat} {A : Nat → (Nat → Nat) × Nat} {f : Nat → Nat} {len many first dp : Nat} {g0 : sg} {A0 : (Nat → Nat → Int32) → Prop}
def v_0 (n first many : Nat) : mj_LV := [some (.ref 36), some (.int (nI n)), some (.int (nI first)), some (.int (nI (first + many))), none, none, none, none, none, none]
def v_T (n first many len dp t : Nat) : mj_LV := [some (.ref 36), some (.int (nI n)), some (.int (nI first)), none, some (.int (nI many)), some (.int (nI len)), some (.int (nI dp)), none, some (.int (nI (rt t))), none]
def w_C (n first many bg dp : Nat) (cl : Int32) (fo gt : Nat) : mj_LV := [some (.ref 30), some (.int (nI (n + 1))), some (.int (nI first)), some (.int (nI (first + many))), some (.int (nI bg)), some (.int (nI dp)), some (.int cl), some (.int (nI fo)), some (.int (nI gt)), none, none]
/-- the depth behind one more token -/
def dn (t dp : Nat) : Nat := if cg t = 1 then dp + 1 else if cg t = 2 then dp - 1 else dp
theorem dq_dn : dq (ud f len t) (len + 1) = dn t (dq f len) := by
  rw [dq_s, ud_at, dq_ud (Nat.le_refl _)]
  rfl
theorem r_145t (hM' : mj_Rt mm_R Rf) (hv : gv (K, P, E, N, S, M, C, O, L)) (ht : tv N.2.2 t) (hd : dp ≤ 10000) (hn2 : ¬ (cg t = 2 ∧ dp = 0)) (hM : RM X Rf mb_145 6 0 (v_0 n first many) [] g0 A0 45 (v_T n first many len dp t) [] (K, P, E, N, S, M, C, O, L) (raP n A f len)) : RM X Rf mb_145 6 0 (v_0 n first many) [] g0 A0 113 (v_T n first many len dp t) [.int (nI (dn t dp))] (K, P, E, N, S, M, C, O, L) (raP n A f len) := by
  have hm := mm_rf hM'
  have hk : N.2.2 ≤ 1036 := (gv_d hv).2.2.1.2.1
  have hk1 : 36 ≤ N.2.2 := (gv_d hv).2.2.1.1
  refine rm_tr hM ?_
  intro H Lg d nc ns J Q hJ hA hq
  have hq1 := hq H J hx_rf hJ hA
  have k79 : mj_rn X (mj_hd []) (mj_call X mj_P (mj_bi X) (d + 6)) mb_145 71 (v_T n first many len dp t) [] (sh59, J, Lg, Rf, nc, ns) Q := by
    unfold dn at hq1
    unfold v_T at hq1 ⊢
    refine mj_blk rfl ?_
    simp +decide only [mjs_0, mjs_1, mjs_2, mjs_3, mjs_ble, true_and, Bool.false_eq_true, if_false, if_true, Nat.reduceAdd, Nat.reduceSub, Nat.reduceLeDiff, false_implies, true_implies, not_false_eq_true, not_true_eq_false, and_true, mm_sh, hm, mjs_up_at, mjs_up_c, mjs_up_f, (rr_d hJ).1.2.2.2]
    refine mj_blk rfl ?_
    simp +decide only [mjs_0, mjs_1, mjs_2, mjs_3, mjs_ble, true_and, Bool.false_eq_true, if_false, if_true, Nat.reduceAdd, Nat.reduceSub, Nat.reduceLeDiff, false_implies, true_implies, not_false_eq_true, not_true_eq_false, and_true, mm_sh, hm, mjs_up_at, mjs_up_c, mjs_up_f]
    refine rq_121 (c := 1) hk hk1 ht (by decide) (fun e1 => ?_) (fun e1 => ?_)
    · rw [if_pos e1] at hq1
      simp +decide only [mjs_0, mjs_1, mjs_2, mjs_3, mjs_ble, true_and, Bool.false_eq_true, if_false, if_true, Nat.reduceAdd, Nat.reduceSub, Nat.reduceLeDiff, false_implies, true_implies, not_false_eq_true, not_true_eq_false, and_true, mm_sh, hm, mjs_up_at, mjs_up_c, mjs_up_f]
      refine mj_blk rfl ?_
      simp +decide only [mjs_0, mjs_1, mjs_2, mjs_3, mjs_ble, true_and, Bool.false_eq_true, if_false, if_true, Nat.reduceAdd, Nat.reduceSub, Nat.reduceLeDiff, false_implies, true_implies, not_false_eq_true, not_true_eq_false, and_true, mm_sh, hm, mjs_up_at, mjs_up_c, mjs_up_f, nI_1]
      exact mj_nv hq1
    · rw [if_neg e1] at hq1
      simp +decide only [mjs_0, mjs_1, mjs_2, mjs_3, mjs_ble, true_and, Bool.false_eq_true, if_false, if_true, Nat.reduceAdd, Nat.reduceSub, Nat.reduceLeDiff, false_implies, true_implies, not_false_eq_true, not_true_eq_false, and_true, mm_sh, hm, mjs_up_at, mjs_up_c, mjs_up_f]
      refine mj_blk rfl ?_
      simp +decide only [mjs_0, mjs_1, mjs_2, mjs_3, mjs_ble, true_and, Bool.false_eq_true, if_false, if_true, Nat.reduceAdd, Nat.reduceSub, Nat.reduceLeDiff, false_implies, true_implies, not_false_eq_true, not_true_eq_false, and_true, mm_sh, hm, mjs_up_at, mjs_up_c, mjs_up_f]
      refine rq_121 (c := 2) hk hk1 ht (by decide) (fun e2 => ?_) (fun e2 => ?_)
      · rw [if_pos e2] at hq1
        obtain ⟨z, rfl⟩ : ∃ z, dp = z + 1 := ⟨dp - 1, by omega⟩
        rw [Nat.add_sub_cancel] at hq1
        simp +decide only [mjs_0, mjs_1, mjs_2, mjs_3, mjs_ble, true_and, Bool.false_eq_true, if_false, if_true, Nat.reduceAdd, Nat.reduceSub, Nat.reduceLeDiff, false_implies, true_implies, not_false_eq_true, not_true_eq_false, and_true, mm_sh, hm, mjs_up_at, mjs_up_c, mjs_up_f]
        refine mj_blk rfl ?_
        simp +decide only [mjs_0, mjs_1, mjs_2, mjs_3, mjs_ble, true_and, Bool.false_eq_true, if_false, if_true, Nat.reduceAdd, Nat.reduceSub, Nat.reduceLeDiff, false_implies, true_implies, not_false_eq_true, not_true_eq_false, and_true, mm_sh, hm, mjs_up_at, mjs_up_c, mjs_up_f, nI_pred]
        exact mj_nv hq1
      · rw [if_neg e2] at hq1
        simp +decide only [mjs_0, mjs_1, mjs_2, mjs_3, mjs_ble, true_and, Bool.false_eq_true, if_false, if_true, Nat.reduceAdd, Nat.reduceSub, Nat.reduceLeDiff, false_implies, true_implies, not_false_eq_true, not_true_eq_false, and_true, mm_sh, hm, mjs_up_at, mjs_up_c, mjs_up_f]
        refine mj_blk rfl ?_
        simp +decide only [mjs_0, mjs_1, mjs_2, mjs_3, mjs_ble, true_and, Bool.false_eq_true, if_false, if_true, Nat.reduceAdd, Nat.reduceSub, Nat.reduceLeDiff, false_implies, true_implies, not_false_eq_true, not_true_eq_false, and_true, mm_sh, hm, mjs_up_at, mjs_up_c, mjs_up_f]
        exact mj_nv hq1
  unfold v_T at k79 ⊢
  refine mj_blk rfl ?_
  simp +decide only [mjs_0, mjs_1, mjs_2, mjs_3, mjs_ble, true_and, Bool.false_eq_true, if_false, if_true, Nat.reduceAdd, Nat.reduceSub, Nat.reduceLeDiff, false_implies, true_implies, not_false_eq_true, not_true_eq_false, and_true, mm_sh, hm, mjs_up_at, mjs_up_c, mjs_up_f, (rr_d hJ).1.2.2.2]
  refine mj_blk rfl ?_
  simp +decide only [mjs_0, mjs_1, mjs_2, mjs_3, mjs_ble, true_and, Bool.false_eq_true, if_false, if_true, Nat.reduceAdd, Nat.reduceSub, Nat.reduceLeDiff, false_implies, true_implies, not_false_eq_true, not_true_eq_false, and_true, mm_sh, hm, mjs_up_at, mjs_up_c, mjs_up_f]
  refine rq_121 (c := 2) hk hk1 ht (by decide) (fun e2 => ?_) (fun e2 => ?_)
  · simp +decide only [mjs_0, mjs_1, mjs_2, mjs_3, mjs_ble, true_and, Bool.false_eq_true, if_false, if_true, Nat.reduceAdd, Nat.reduceSub, Nat.reduceLeDiff, false_implies, true_implies, not_false_eq_true, not_true_eq_false, and_true, mm_sh, hm, mjs_up_at, mjs_up_c, mjs_up_f]
    refine mj_blk rfl ?_
    simp +decide only [mjs_0, mjs_1, mjs_2, mjs_3, mjs_ble, true_and, Bool.false_eq_true, if_false, if_true, Nat.reduceAdd, Nat.reduceSub, Nat.reduceLeDiff, false_implies, true_implies, not_false_eq_true, not_true_eq_false, and_true, mm_sh, hm, mjs_up_at, mjs_up_c, mjs_up_f]
    refine ⟨fun _ => mj_nv k79, fun q => absurd (nI_ne0 (n := dp) (by omega) (by omega)) q⟩
  · simp +decide only [mjs_0, mjs_1, mjs_2, mjs_3, mjs_ble, true_and, Bool.false_eq_true, if_false, if_true, Nat.reduceAdd, Nat.reduceSub, Nat.reduceLeDiff, false_implies, true_implies, not_false_eq_true, not_true_eq_false, and_true, mm_sh, hm, mjs_up_at, mjs_up_c, mjs_up_f]
    exact mj_nv k79
theorem r_145g (hM' : mj_Rt mm_R Rf) (hv : gv (K, P, E, N, S, M, C, O, L)) (ht : tv N.2.2 t) (hn : n < 9) (hm1 : 1 ≤ many) (hl : len < 10000) (htv : ∀ i, i < len → tv N.2.2 (f i)) (hu : first + many ≤ M.2.2.2.1) (hd : ∀ i, i < many → tb N.2.2 (M.1 (first + i))) (hdp : dp ≤ 10001) {fo : Nat} (hfo : (dp = 0 ∧ EW (ud f len t) (len + 1) many first M.1 ∧ fo = 1) ∨ (¬ (dp = 0 ∧ EW (ud f len t) (len + 1) many first M.1) ∧ fo = 0)) {dp0 : Nat} (hM : RM X Rf mb_145 6 0 (v_0 n first many) [] g0 A0 113 (v_T n first many len dp0 t) [.int (nI dp)] (K, P, E, N, S, M, C, O, L) (raP n A f len)) : RM X Rf mb_145 6 0 (v_0 n first many) [] g0 A0 14 (v_E n first many (len + 1) dp fo) [] (K, P, E, N, S, M, C, O, L) (raP n A (ud f len t) (len + 1)) := by
  have hm := mm_rf hM'
  have hu2 : M.2.2.2.1 ≤ 10000 := (gv_d hv).2.2.2.2.1.2.2.1.2.1
  have htv1 : ∀ i, i < len + 1 → tv N.2.2 (ud f len t i) := fun i hi => by
    by_cases e : i = len
    · rw [e, ud_at]
      exact ht
    · rw [ud_ne e]
      exact htv i (by omega)
  refine rm_tr hM ?_
  intro H Lg d nc ns J Q hJ hA hq
  have e1 : (11000 : Int32) * nI n = nI (11000 * n) := pk_mul 11000 n
  have e2 : (nI (11000 * n + len)).toNatClampNeg = 11000 * n + len := nI_clamp (by omega)
  have hJ1 := rr_54 (q := 11000 * n + len) (v := nI (rt t)) hJ
  have hA1 := raP_add (t := t) (by omega) hA
  have hq1 := hq _ _ (hx_up (by decide)) hJ1 hA1
  have f0 : fo = 0 → mj_rn X (mj_hd []) (mj_call X mj_P (mj_bi X) (d + 6)) mb_145 149 [some (.ref 36), some (.int (nI n)), some (.int (nI first)), none, some (.int (nI many)), some (.int (nI (len + 1))), some (.int (nI dp)), none, none, none] [] (sh59, mj_up J 54 (11000 * n + len) (nI (rt t)), Lg, Rf, nc, ns) Q := by
    intro e
    rw [e] at hq1
    refine mj_blk rfl ?_
    simp +decide only [mjs_0, mjs_1, mjs_2, mjs_3, mjs_ble, true_and, Bool.false_eq_true, if_false, if_true, Nat.reduceAdd, Nat.reduceSub, Nat.reduceLeDiff, false_implies, true_implies, not_false_eq_true, not_true_eq_false, and_true]
    refine mj_blk rfl ?_
    simp +decide only [mjs_0, mjs_1, mjs_2, mjs_3, mjs_ble, true_and, Bool.false_eq_true, if_false, if_true, Nat.reduceAdd, Nat.reduceSub, Nat.reduceLeDiff, false_implies, true_implies, not_false_eq_true, not_true_eq_false, and_true]
    refine mj_blk rfl ?_
    simp +decide only [mjs_0, mjs_1, mjs_2, mjs_3, mjs_ble, true_and, Bool.false_eq_true, if_false, if_true, Nat.reduceAdd, Nat.reduceSub, Nat.reduceLeDiff, false_implies, true_implies, not_false_eq_true, not_true_eq_false, and_true]
    refine ⟨fun q => absurd q (nI_ge (a := 0) (b := many) (by omega) (by omega)), fun _ => mj_blk rfl ?_⟩
    simp +decide only [mjs_0, mjs_1, mjs_2, mjs_3, mjs_ble, true_and, Bool.false_eq_true, if_false, if_true, Nat.reduceAdd, Nat.reduceSub, Nat.reduceLeDiff, false_implies, true_implies, not_false_eq_true, not_true_eq_false, and_true]
    refine mj_blk rfl ?_
    simp +decide only [mjs_0, mjs_1, mjs_2, mjs_3, mjs_ble, true_and, Bool.false_eq_true, if_false, if_true, Nat.reduceAdd, Nat.reduceSub, Nat.reduceLeDiff, false_implies, true_implies, not_false_eq_true, not_true_eq_false, and_true]
    exact mj_nv hq1
  unfold v_T
  refine mj_blk rfl ?_
  simp +decide only [mjs_0, mjs_1, mjs_2, mjs_3, mjs_ble, true_and, Bool.false_eq_true, if_false, if_true, Nat.reduceAdd, Nat.reduceSub, Nat.reduceLeDiff, false_implies, true_implies, not_false_eq_true, not_true_eq_false, and_true, mm_sh, hm, mjs_up_at, mjs_up_c, mjs_up_f, e1, nI_add, e2, nI_1]
  refine ⟨nI_in (by omega) (by decide), ?_⟩
  by_cases e : dp = 0
  · refine ⟨fun q => absurd (by rw [e]; rfl) q, fun _ => mj_blk rfl ?_⟩
    simp +decide only [mjs_0, mjs_1, mjs_2, mjs_3, mjs_ble, true_and, Bool.false_eq_true, if_false, if_true, Nat.reduceAdd, Nat.reduceSub, Nat.reduceLeDiff, false_implies, true_implies, not_false_eq_true, not_true_eq_false, and_true, mm_sh, hm, mjs_up_at, mjs_up_c, mjs_up_f]
    by_cases hlm : many ≤ len + 1
    · refine ⟨fun q => absurd q (nI_nlt (a := len + 1) (b := many) hlm (by omega)), fun _ => mj_blk rfl ?_⟩
      simp +decide only [mjs_0, mjs_1, mjs_2, mjs_3, mjs_ble, true_and, Bool.false_eq_true, if_false, if_true, Nat.reduceAdd, Nat.reduceSub, Nat.reduceLeDiff, false_implies, true_implies, not_false_eq_true, not_true_eq_false, and_true, mm_sh, hm, mjs_up_at, mjs_up_c, mjs_up_f]
      refine mj_blk rfl ?_
      simp +decide only [mjs_0, mjs_1, mjs_2, mjs_3, mjs_ble, true_and, Bool.false_eq_true, if_false, if_true, Nat.reduceAdd, Nat.reduceSub, Nat.reduceLeDiff, false_implies, true_implies, not_false_eq_true, not_true_eq_false, and_true, mm_sh, hm, mjs_up_at, mjs_up_c, mjs_up_f]
      refine mj_nv (r_145m (d := d) (dp := dp) hM' hv hJ1 hA1 hn hlm (by omega) htv1 hu hd (fun hw => ?_) (fun hw => ?_) many 0 (by omega) (fun q hq => absurd hq (Nat.not_lt_zero _)))
      · rcases hfo with ⟨_, _, h3⟩ | ⟨h1, _⟩
        · rw [h3] at hq1
          exact hq1
        · exact absurd ⟨e, hw⟩ h1
      · rcases hfo with ⟨_, h2, _⟩ | ⟨_, h2⟩
        · exact absurd h2 hw
        · rw [h2] at hq1
          exact hq1
    · refine ⟨fun _ => mj_nv (f0 ?_), fun q => absurd (nI_lt (a := len + 1) (b := many) (by omega) (by omega)) q⟩
      rcases hfo with ⟨_, h2, _⟩ | ⟨_, h2⟩
      · exact absurd h2.1 hlm
      · exact h2
  · refine ⟨fun _ => mj_nv (f0 ?_), fun q => absurd (nI_ne0 (n := dp) (by omega) (by omega)) q⟩
    rcases hfo with ⟨h1, _⟩ | ⟨_, h2⟩
    · exact absurd h1 e
    · exact h2
theorem p_12l (hR : mj_Rt mp_R Rf) (hM' : mj_Rt mm_R Rf) (hr' : nc + 1 ≤ X.2.2.1 ∧ ns + 6 ≤ X.2.2.2) (hn : n < 9) (hm1 : 1 ≤ many) (hu : first + many ≤ M.2.2.2.1) (hdl : ∀ i, i < many → M.1 (first + i) < 2097152) : ∀ (m len : Nat) (f : Nat → Nat) (cl : Int32) (fb : Nat → Nat → Int32) (P : List Nat) (N : sgN) (L : sgL) (I : Nat → Nat → Int32), P.length + tl L ≤ m → P.length ≤ 10000 → len ≤ 10000 → bg + len + P.length + tl L ≤ 14100 → caP n A bg f len fb → clP f bg len cl → (∀ i, i < len → tv N.2.2 (f i)) → (∀ i, i < len → cg (f i) = 2 → 1 ≤ dq f i) → gv (K, P, E, N, S, M, C, O, L) → RC fb vb (K, P, E, N, S, M, C, O, L) I → RM X Rf mb_145 6 0 (v_0 n first many) [] g0 A0 14 (v_E n first many len (dq f len) 0) [] (K, P, E, N, S, M, C, O, L) (raP n A f len) →
    (∀ fb' P' N' L' I' f' len' cl', gv (K, P', E, N', S, M, C, O, L') → RC fb' vb (K, P', E, N', S, M, C, O, L') I' → ge P N L P' N' L' → caP n A bg f' len' fb' → clP f' bg len' cl' → len' ≤ 10000 → bg + len' + P'.length + tl L' ≤ 14100 → (∀ i, i < len' → tv N'.2.2 (f' i)) → (∀ i, i < len' → cg (f' i) = 2 → 1 ≤ dq f' i) → dq f' len' = 0 → EW f' len' many first M.1 → RM X Rf mb_145 6 0 (v_0 n first many) [] g0 A0 14 (v_E n first many len' 0 1) [] (K, P', E, N', S, M, C, O, L') (raP n A f' len') → mj_rn X (mj_hd []) (mj_call X mj_P (mj_bi X) (d + 2)) mb_12 161 [some (.ref 30), some (.int (nI (n + 1))), some (.int (nI first)), some (.int (nI (first + many))), some (.int (nI bg)), none, some (.int cl'), none, none, none, none] [] (sh59, I', Lg, Rf, nc, ns) Q) →
    (∀ g' I', RCf fb vb g' I' → RMf X Rf mb_145 6 0 (v_0 n first many) [] g0 A0 none g' → Q (.inr 500) (sh59, I', Lg, Rf, nc + 1, ns + 6)) →
    mj_rn X (mj_hd []) (mj_call X mj_P (mj_bi X) (d + 2)) mb_12 18 (w_C n first many bg (dq f len) cl 0 (len + 1)) [] (sh59, I, Lg, Rf, nc, ns) Q := by
  have hr := mc_rf hR
  have hm := mm_rf hM'
  intro m
  induction m using Nat.strongRecOn with
  | ind m ih =>
    intro len f cl fb P N L I h1 h2 h3 h7 hA hcl htv hdv hv h hM hqA hqF
    have dl := dq_le (f := f) (c := len)
    have hu2 : M.2.2.2.1 ≤ 10000 := (gv_d hv).2.2.2.2.1.2.2.1.2.1
    unfold w_C
    refine mj_blk rfl ?_
    simp +decide only [mjs_0, mjs_1, mjs_2, mjs_3, mjs_ble, true_and, Bool.false_eq_true, if_false, if_true, Nat.reduceAdd, Nat.reduceSub, Nat.reduceLeDiff, false_implies, true_implies, not_false_eq_true, not_true_eq_false, and_true]
    refine mj_blk rfl ?_
    simp +decide only [mjs_0, mjs_1, mjs_2, mjs_3, mjs_ble, true_and, Bool.false_eq_true, if_false, if_true, Nat.reduceAdd, Nat.reduceSub, Nat.reduceLeDiff, false_implies, true_implies, not_false_eq_true, not_true_eq_false, and_true]
    refine ⟨fun q => absurd q (nI_ge (a := len + 1) (b := 1000000000) (by omega) (by decide)), fun _ => mj_blk rfl ?_⟩
    simp +decide only [mjs_0, mjs_1, mjs_2, mjs_3, mjs_ble, true_and, Bool.false_eq_true, if_false, if_true, Nat.reduceAdd, Nat.reduceSub, Nat.reduceLeDiff, false_implies, true_implies, not_false_eq_true, not_true_eq_false, and_true, mc_sh, hr, mjs_up_at, mjs_up_c, mjs_up_f]
    refine p_85n hR hM' hv h h2 hr' (fun t P1 N1 L1 I1 a1 a2 a3 a4 a5 a6 a7 a8 => ?_) (fun g' I' a1 a2 => ?_)
    · have hk : N1.2.2 ≤ 1036 := (gv_d a1).2.2.1.2.1
      have hk1 : 36 ≤ N1.2.2 := (gv_d a1).2.2.1.1
      have htl := tv_lt hk a7
      have hge : ge P N L P1 N1 L1 := ⟨a3, by omega, a5.2, a6⟩
      have hcg : cg t ≤ 16 := by
        unfold cg
        split <;> omega
      have htv1 : ∀ i, i < len → tv N1.2.2 (f i) := fun i hi => tv_mono a3.1 (htv i hi)
      have gM := (gv_d a1).2.2.2.2.1
      have htb : ∀ i, i < many → tb N1.2.2 (M.1 (first + i)) := fun i hi => by
        rcases gM.2.2.2 (first + i) (by omega) with hh | hh
        · exact hh
        · exact absurd (hdl i hi) (by omega)
      have r32 : RM X Rf mb_145 6 0 (v_0 n first many) [] g0 A0 32 (v_T n first many len (dq f len) t) [] (K, P1, E, N1, S, M, C, O, L1) (raP n A f len) := by
        refine rm_tr hM ?_
        intro H Lg d nc ns J Q hJ hA hq
        unfold v_E
        unfold v_T at hq
        refine mj_blk rfl ?_
        simp +decide only [mjs_0, mjs_1, mjs_2, mjs_3, mjs_ble, true_and, Bool.false_eq_true, if_false, if_true, Nat.reduceAdd, Nat.reduceSub, Nat.reduceLeDiff, false_implies, true_implies, not_false_eq_true, not_true_eq_false, and_true, mm_sh, hm, mjs_up_at, mjs_up_c, mjs_up_f]
        refine mj_blk rfl ?_
        simp +decide only [mjs_0, mjs_1, mjs_2, mjs_3, mjs_ble, true_and, Bool.false_eq_true, if_false, if_true, Nat.reduceAdd, Nat.reduceSub, Nat.reduceLeDiff, false_implies, true_implies, not_false_eq_true, not_true_eq_false, and_true, mm_sh, hm, mjs_up_at, mjs_up_c, mjs_up_f]
        refine a8 H Lg d nc ns J _ hJ (fun J1 hJ1 => ?_)
        simp +decide only [mjs_0, mjs_1, mjs_2, mjs_3, mjs_ble, true_and, Bool.false_eq_true, if_false, if_true, Nat.reduceAdd, Nat.reduceSub, Nat.reduceLeDiff, false_implies, true_implies, not_false_eq_true, not_true_eq_false, and_true, mm_sh, hm, mjs_up_at, mjs_up_c, mjs_up_f, (rr_d hJ1).1.2.2.2]
        exact mj_nv (hq H J1 hx_rf hJ1 hA)
      simp +decide only [mjs_0, mjs_1, mjs_2, mjs_3, mjs_ble, true_and, Bool.false_eq_true, if_false, if_true, Nat.reduceAdd, Nat.reduceSub, Nat.reduceLeDiff, false_implies, true_implies, not_false_eq_true, not_true_eq_false, and_true, mc_sh, hr, mjs_up_at, mjs_up_c, mjs_up_f]
      refine cq_189 (by omega) ?_
      simp +decide only [mjs_0, mjs_1, mjs_2, mjs_3, mjs_ble, true_and, Bool.false_eq_true, if_false, if_true, Nat.reduceAdd, Nat.reduceSub, Nat.reduceLeDiff, false_implies, true_implies, not_false_eq_true, not_true_eq_false, and_true]
      refine ⟨fun q => mj_blk rfl ?_, fun q => mj_blk rfl ?_⟩
      · have hgt : len + 1 ≤ 10000 := (nI_leI (a := len + 1) (b := 10000) (by omega) (by decide)).mp q
        have r45 : RM X Rf mb_145 6 0 (v_0 n first many) [] g0 A0 45 (v_T n first many len (dq f len) t) [] (K, P1, E, N1, S, M, C, O, L1) (raP n A f len) := by
          refine rm_tr r32 ?_
          intro H Lg d nc ns J Q hJ hA hq
          have ne : ¬ nI len = 10000 := fun e => absurd ((nI_eq (a := len) (b := 10000) (by omega) (by decide)).mp e) (by omega)
          unfold v_T at hq ⊢
          refine mj_blk rfl ?_
          simp +decide only [mjs_0, mjs_1, mjs_2, mjs_3, mjs_ble, true_and, Bool.false_eq_true, if_false, if_true, Nat.reduceAdd, Nat.reduceSub, Nat.reduceLeDiff, false_implies, true_implies, not_false_eq_true, not_true_eq_false, and_true, mm_sh, hm, mjs_up_at, mjs_up_c, mjs_up_f]
          refine ⟨fun _ => mj_nv (hq H J hx_rf hJ hA), fun qq => absurd ne qq⟩
        simp +decide only [mjs_0, mjs_1, mjs_2, mjs_3, mjs_ble, true_and, Bool.false_eq_true, if_false, if_true, Nat.reduceAdd, Nat.reduceSub, Nat.reduceLeDiff, false_implies, true_implies, not_false_eq_true, not_true_eq_false, and_true, mc_sh]
        refine cq_14 hR a2 hA.1.1 (by omega) (fun I2 c2 => ?_)
        have hA2 := caP_add (t := t) (by omega) hA
        have htv2 : ∀ i, i < len + 1 → tv N1.2.2 (ud f len t i) := fun i hi => by
          by_cases e : i = len
          · rw [e, ud_at]
            exact a7
          · rw [ud_ne e]
            exact htv1 i (by omega)
        have hdv2 : ¬ (cg t = 2 ∧ dq f len = 0) → ∀ i, i < len + 1 → cg (ud f len t i) = 2 → 1 ≤ dq (ud f len t) i := fun hh i hi hc => by
          rw [dq_ud (by omega)]
          by_cases e : i = len
          · rw [e, ud_at] at hc
            rw [e]
            by_cases e0 : dq f len = 0
            · exact absurd ⟨hc, e0⟩ hh
            · omega
          · rw [ud_ne e] at hc
            exact hdv i (by omega) hc
        -- behind the depth
        have K110 : ¬ (cg t = 2 ∧ dq f len = 0) → ∀ w7 w9 : Option Value, mj_rn X (mj_hd []) (mj_call X mj_P (mj_bi X) (d + 2)) mb_12 110 [some (.ref 30), some (.int (nI (n + 1))), some (.int (nI first)), some (.int (nI (first + many))), some (.int (nI bg)), some (.int (nI (dn t (dq f len)))), some (.int cl), w7, some (.int (nI (len + 1))), w9, some (.int (nI (cg t)))] [] (sh59, I2, Lg, Rf, nc, ns) Q := by
          intro hn2 w7 w9
          have r113 := r_145t hM' a1 a7 (by omega) hn2 r45
          have hcl2 := cl_step (t := t) (by omega) hcl
          have hlt2 : dn t (dq f len) ≤ 10001 := by
            rw [← dq_dn]
            have := dq_le (f := ud f len t) (c := len + 1)
            omega
          rw [dq_dn] at hcl2
          -- with the new closed
          have K132 : ∀ cl' : Int32, clP (ud f len t) bg (len + 1) cl' → ∀ w7 w9 w10 : Option Value, mj_rn X (mj_hd []) (mj_call X mj_P (mj_bi X) (d + 2)) mb_12 132 [some (.ref 30), some (.int (nI (n + 1))), some (.int (nI first)), some (.int (nI (first + many))), some (.int (nI bg)), some (.int (nI (dn t (dq f len)))), some (.int cl'), w7, some (.int (nI (len + 1))), w9, w10] [] (sh59, I2, Lg, Rf, nc, ns) Q := by
            intro cl' hcl' w7 w9 w10
            have K152 : ¬ (dn t (dq f len) = 0 ∧ EW (ud f len t) (len + 1) many first M.1) → mj_rn X (mj_hd []) (mj_call X mj_P (mj_bi X) (d + 2)) mb_12 152 [some (.ref 30), some (.int (nI (n + 1))), some (.int (nI first)), some (.int (nI (first + many))), some (.int (nI bg)), some (.int (nI (dn t (dq f len)))), some (.int cl'), none, some (.int (nI (len + 1))), none, none] [] (sh59, I2, Lg, Rf, nc, ns) Q := by
              intro hno
              have r14 := r_145g hM' a1 a7 hn hm1 (by omega) htv1 hu htb hlt2 (Or.inr ⟨hno, rfl⟩) r113
              rw [← dq_dn] at r14
              have go := ih (P1.length + tl L1) (by omega) (len + 1) (ud f len t) cl' (aB fb (bg + len) t) P1 N1 L1 I2 (Nat.le_refl _) (by omega) (by omega) (by omega) hA2 hcl' htv2 (hdv2 hn2) a1 c2 r14 (fun fb' P' N' L' I' f' len' cl' b1 b2 b3 => hqA fb' P' N' L' I' f' len' cl' b1 b2 (ge_tr hge b3)) hqF
              rw [dq_dn] at go
              refine mj_blk rfl ?_
              simp +decide only [mjs_0, mjs_1, mjs_2, mjs_3, mjs_ble, true_and, Bool.false_eq_true, if_false, if_true, Nat.reduceAdd, Nat.reduceSub, Nat.reduceLeDiff, false_implies, true_implies, not_false_eq_true, not_true_eq_false, and_true]
              refine mj_blk rfl ?_
              simp +decide only [mjs_0, mjs_1, mjs_2, mjs_3, mjs_ble, true_and, Bool.false_eq_true, if_false, if_true, Nat.reduceAdd, Nat.reduceSub, Nat.reduceLeDiff, false_implies, true_implies, not_false_eq_true, not_true_eq_false, and_true, nI_1]
              exact mj_nv go
            refine mj_blk rfl ?_
            simp +decide only [mjs_0, mjs_1, mjs_2, mjs_3, mjs_ble, true_and, Bool.false_eq_true, if_false, if_true, Nat.reduceAdd, Nat.reduceSub, Nat.reduceLeDiff, false_implies, true_implies, not_false_eq_true, not_true_eq_false, and_true]
            by_cases e : dn t (dq f len) = 0
            · refine ⟨fun q => absurd (by rw [e]; rfl) q, fun _ => mj_blk rfl ?_⟩
              simp +decide only [mjs_0, mjs_1, mjs_2, mjs_3, mjs_ble, true_and, Bool.false_eq_true, if_false, if_true, Nat.reduceAdd, Nat.reduceSub, Nat.reduceLeDiff, false_implies, true_implies, not_false_eq_true, not_true_eq_false, and_true, mc_sh]
              refine cq_13 (f := ud f len t) (len := len + 1) hR c2 hA2.1.1 hA2.2.2 (fun i hi => by have := tv_lt hk (htv2 i hi); omega) (by omega) hu hu2 (fun j hj => by have := pv_lt hk (gM.2.2.2 j hj); omega) (fun hw => ?_) (fun hw => ?_)
              · have r14 := r_145g hM' a1 a7 hn hm1 (by omega) htv1 hu htb hlt2 (Or.inl ⟨e, hw, rfl⟩) r113
                rw [e] at r14
                have go := hqA (aB fb (bg + len) t) P1 N1 L1 I2 (ud f len t) (len + 1) cl' a1 c2 hge hA2 hcl' (by omega) (by omega) htv2 (hdv2 hn2) (dq_dn.trans e) hw r14
                simp +decide only [mjs_0, mjs_1, mjs_2, mjs_3, mjs_ble, true_and, Bool.false_eq_true, if_false, if_true, Nat.reduceAdd, Nat.reduceSub, Nat.reduceLeDiff, false_implies, true_implies, not_false_eq_true, not_true_eq_false, and_true]
                refine mj_blk rfl ?_
                simp +decide only [mjs_0, mjs_1, mjs_2, mjs_3, mjs_ble, true_and, Bool.false_eq_true, if_false, if_true, Nat.reduceAdd, Nat.reduceSub, Nat.reduceLeDiff, false_implies, true_implies, not_false_eq_true, not_true_eq_false, and_true]
                refine mj_blk rfl ?_
                simp +decide only [mjs_0, mjs_1, mjs_2, mjs_3, mjs_ble, true_and, Bool.false_eq_true, if_false, if_true, Nat.reduceAdd, Nat.reduceSub, Nat.reduceLeDiff, false_implies, true_implies, not_false_eq_true, not_true_eq_false, and_true]
                refine mj_blk rfl ?_
                simp +decide only [mjs_0, mjs_1, mjs_2, mjs_3, mjs_ble, true_and, Bool.false_eq_true, if_false, if_true, Nat.reduceAdd, Nat.reduceSub, Nat.reduceLeDiff, false_implies, true_implies, not_false_eq_true, not_true_eq_false, and_true]
                exact mj_nv go
              · simp +decide only [mjs_0, mjs_1, mjs_2, mjs_3, mjs_ble, true_and, Bool.false_eq_true, if_false, if_true, Nat.reduceAdd, Nat.reduceSub, Nat.reduceLeDiff, false_implies, true_implies, not_false_eq_true, not_true_eq_false, and_true]
                exact mj_nv (K152 (fun hh => hw hh.2))
            · exact ⟨fun _ => mj_nv (K152 (fun hh => e hh.1)), fun q => absurd (nI_ne0 (n := dn t (dq f len)) (by omega) (by omega)) q⟩
          refine mj_blk rfl ?_
          simp +decide only [mjs_0, mjs_1, mjs_2, mjs_3, mjs_ble, true_and, Bool.false_eq_true, if_false, if_true, Nat.reduceAdd, Nat.reduceSub, Nat.reduceLeDiff, false_implies, true_implies, not_false_eq_true, not_true_eq_false, and_true]
          by_cases e : dn t (dq f len) = 0
          · refine ⟨fun q => absurd (by rw [e]; rfl) q, fun _ => mj_blk rfl ?_⟩
            simp +decide only [mjs_0, mjs_1, mjs_2, mjs_3, mjs_ble, true_and, Bool.false_eq_true, if_false, if_true, Nat.reduceAdd, Nat.reduceSub, Nat.reduceLeDiff, false_implies, true_implies, not_false_eq_true, not_true_eq_false, and_true]
            by_cases e2 : cg t = 2
            · refine ⟨fun q => absurd (by rw [e2]; rfl) q, fun _ => mj_blk rfl ?_⟩
              simp +decide only [mjs_0, mjs_1, mjs_2, mjs_3, mjs_ble, true_and, Bool.false_eq_true, if_false, if_true, Nat.reduceAdd, Nat.reduceSub, Nat.reduceLeDiff, false_implies, true_implies, not_false_eq_true, not_true_eq_false, and_true]
              by_cases ec : cl < 0
              · rw [if_pos ⟨e, e2, ec⟩] at hcl2
                have h30 : I2 30 3 = nI (bg + len + 1) := ((rc_fb c2 3).1).trans hA2.1.1
                refine ⟨fun q => absurd ec (Int32.not_lt.mpr q), fun _ => mj_blk rfl ?_⟩
                simp +decide only [mjs_0, mjs_1, mjs_2, mjs_3, mjs_ble, true_and, Bool.false_eq_true, if_false, if_true, Nat.reduceAdd, Nat.reduceSub, Nat.reduceLeDiff, false_implies, true_implies, not_false_eq_true, not_true_eq_false, and_true, mc_sh, hr, mjs_up_at, mjs_up_c, mjs_up_f, h30]
                exact mj_nv (K132 _ hcl2 none none none)
              · rw [if_neg (fun hh => ec hh.2.2)] at hcl2
                exact ⟨fun _ => mj_nv (K132 _ hcl2 none none none), fun q => absurd (Int32.not_lt.mp ec) q⟩
            · rw [if_neg (fun hh => e2 hh.2.1)] at hcl2
              have n2 : ¬ nI (cg t) = 2 := fun q => e2 ((nI_eq (by omega) (by decide)).mp (show nI (cg t) = nI 2 from q))
              exact ⟨fun _ => mj_nv (K132 _ hcl2 none none none), fun q => absurd n2 q⟩
          · rw [if_neg (fun hh => e hh.1)] at hcl2
            exact ⟨fun _ => mj_nv (K132 _ hcl2 none none none), fun q => absurd (nI_ne0 (n := dn t (dq f len)) (by omega) (by omega)) q⟩
        have K93 : ¬ (cg t = 2 ∧ dq f len = 0) → ∀ y : Int32, nI (dq f len) + y = nI (dn t (dq f len)) → mj_rn X (mj_hd []) (mj_call X mj_P (mj_bi X) (d + 2)) mb_12 93 [some (.ref 30), some (.int (nI (n + 1))), some (.int (nI first)), some (.int (nI (first + many))), some (.int (nI bg)), none, some (.int cl), none, some (.int (nI (len + 1))), none, some (.int (nI (cg t)))] [.int y, .int (nI (dq f len))] (sh59, I2, Lg, Rf, nc, ns) Q := by
          intro hn2 y hy
          have hlt2 : dn t (dq f len) ≤ 10001 := by
            rw [← dq_dn]
            have := dq_le (f := ud f len t) (c := len + 1)
            omega
          refine mj_blk rfl ?_
          simp +decide only [mjs_0, mjs_1, mjs_2, mjs_3, mjs_ble, true_and, Bool.false_eq_true, if_false, if_true, Nat.reduceAdd, Nat.reduceSub, Nat.reduceLeDiff, false_implies, true_implies, not_false_eq_true, not_true_eq_false, and_true, hy]
          exact ⟨fun _ => mj_nv (K110 hn2 none none), fun q => absurd (nI_pos' (n := dn t (dq f len)) (by omega)) q⟩
        simp +decide only [mjs_0, mjs_1, mjs_2, mjs_3, mjs_ble, true_and, Bool.false_eq_true, if_false, if_true, Nat.reduceAdd, Nat.reduceSub, Nat.reduceLeDiff, false_implies, true_implies, not_false_eq_true, not_true_eq_false, and_true]
        by_cases e1 : cg t = 1
        · simp +decide only [mjs_0, mjs_1, mjs_2, mjs_3, mjs_ble, true_and, Bool.false_eq_true, if_false, if_true, Nat.reduceAdd, Nat.reduceSub, Nat.reduceLeDiff, false_implies, true_implies, not_false_eq_true, not_true_eq_false, and_true, e1]
          refine mj_blk rfl ?_
          simp +decide only [mjs_0, mjs_1, mjs_2, mjs_3, mjs_ble, true_and, Bool.false_eq_true, if_false, if_true, Nat.reduceAdd, Nat.reduceSub, Nat.reduceLeDiff, false_implies, true_implies, not_false_eq_true, not_true_eq_false, and_true]
          have := K93 (fun hh => absurd (e1.symm.trans hh.1) (by decide)) 1 (by unfold dn; rw [if_pos e1, nI_1])
          rw [e1] at this
          exact mj_nv this
        · have n1 : ¬ nI (cg t) = 1 := fun e => e1 ((nI_eq (by omega) (by decide)).mp (show nI (cg t) = nI 1 from e))
          refine ⟨fun _ => mj_blk rfl ?_, fun qq => absurd n1 qq⟩
          by_cases e2 : cg t = 2
          · by_cases e0 : dq f len = 0
            · simp +decide only [mjs_0, mjs_1, mjs_2, mjs_3, mjs_ble, true_and, Bool.false_eq_true, if_false, if_true, Nat.reduceAdd, Nat.reduceSub, Nat.reduceLeDiff, false_implies, true_implies, not_false_eq_true, not_true_eq_false, and_true, e2]
              refine mj_blk rfl ?_
              simp +decide only [mjs_0, mjs_1, mjs_2, mjs_3, mjs_ble, true_and, Bool.false_eq_true, if_false, if_true, Nat.reduceAdd, Nat.reduceSub, Nat.reduceLeDiff, false_implies, true_implies, not_false_eq_true, not_true_eq_false, and_true, e0]
              refine mj_blk rfl ?_
              simp +decide only [mjs_0, mjs_1, mjs_2, mjs_3, mjs_ble, true_and, Bool.false_eq_true, if_false, if_true, Nat.reduceAdd, Nat.reduceSub, Nat.reduceLeDiff, false_implies, true_implies, not_false_eq_true, not_true_eq_false, and_true]
              refine mj_blk rfl ?_
              simp +decide only [mjs_0, mjs_1, mjs_2, mjs_3, mjs_ble, true_and, Bool.false_eq_true, if_false, if_true, Nat.reduceAdd, Nat.reduceSub, Nat.reduceLeDiff, false_implies, true_implies, not_false_eq_true, not_true_eq_false, and_true, mc_sh, hr, mjs_up_at, mjs_up_c, mjs_up_f]
              refine c_80 s59_1 hr' ?_
              simp +decide only [mjs_0, mjs_1, mjs_2, mjs_3, mjs_ble, true_and, Bool.false_eq_true, if_false, if_true, Nat.reduceAdd, Nat.reduceSub, Nat.reduceLeDiff, false_implies, true_implies, not_false_eq_true, not_true_eq_false, and_true]
              refine hqF _ _ (rc_f (fb := aB fb (bg + len) t) a1 c2) (rm_f r45 ?_)
              intro H Lg d nc ns J Q hJ hA hq
              unfold v_T
              refine mj_blk rfl ?_
              simp +decide only [mjs_0, mjs_1, mjs_2, mjs_3, mjs_ble, true_and, Bool.false_eq_true, if_false, if_true, Nat.reduceAdd, Nat.reduceSub, Nat.reduceLeDiff, false_implies, true_implies, not_false_eq_true, not_true_eq_false, and_true, mm_sh, hm, mjs_up_at, mjs_up_c, mjs_up_f, (rr_d hJ).1.2.2.2]
              refine mj_blk rfl ?_
              simp +decide only [mjs_0, mjs_1, mjs_2, mjs_3, mjs_ble, true_and, Bool.false_eq_true, if_false, if_true, Nat.reduceAdd, Nat.reduceSub, Nat.reduceLeDiff, false_implies, true_implies, not_false_eq_true, not_true_eq_false, and_true, mm_sh, hm, mjs_up_at, mjs_up_c, mjs_up_f]
              refine rq_121 (c := 2) hk hk1 a7 (by decide) (fun _ => ?_) (fun e => absurd e2 e)
              simp +decide only [mjs_0, mjs_1, mjs_2, mjs_3, mjs_ble, true_and, Bool.false_eq_true, if_false, if_true, Nat.reduceAdd, Nat.reduceSub, Nat.reduceLeDiff, false_implies, true_implies, not_false_eq_true, not_true_eq_false, and_true, mm_sh, hm, mjs_up_at, mjs_up_c, mjs_up_f]
              refine mj_blk rfl ?_
              simp +decide only [mjs_0, mjs_1, mjs_2, mjs_3, mjs_ble, true_and, Bool.false_eq_true, if_false, if_true, Nat.reduceAdd, Nat.reduceSub, Nat.reduceLeDiff, false_implies, true_implies, not_false_eq_true, not_true_eq_false, and_true, mm_sh, hm, mjs_up_at, mjs_up_c, mjs_up_f, e0]
              refine mj_blk rfl ?_
              simp +decide only [mjs_0, mjs_1, mjs_2, mjs_3, mjs_ble, true_and, Bool.false_eq_true, if_false, if_true, Nat.reduceAdd, Nat.reduceSub, Nat.reduceLeDiff, false_implies, true_implies, not_false_eq_true, not_true_eq_false, and_true, mm_sh, hm, mjs_up_at, mjs_up_c, mjs_up_f]
              refine c_106 s59_36 ?_
              rw [if_pos (rr_d hJ).1.2.2.2]
              simp +decide only [mjs_0, mjs_1, mjs_2, mjs_3, mjs_ble, true_and, Bool.false_eq_true, if_false, if_true, Nat.reduceAdd, Nat.reduceSub, Nat.reduceLeDiff, false_implies, true_implies, not_false_eq_true, not_true_eq_false, and_true, mm_sh, hm, mjs_up_at, mjs_up_c, mjs_up_f]
              refine mj_blk rfl ?_
              simp +decide only [mjs_0, mjs_1, mjs_2, mjs_3, mjs_ble, true_and, Bool.false_eq_true, if_false, if_true, Nat.reduceAdd, Nat.reduceSub, Nat.reduceLeDiff, false_implies, true_implies, not_false_eq_true, not_true_eq_false, and_true, mm_sh, hm, mjs_up_at, mjs_up_c, mjs_up_f]
              refine mj_blk rfl ?_
              simp +decide only [mjs_0, mjs_1, mjs_2, mjs_3, mjs_ble, true_and, Bool.false_eq_true, if_false, if_true, Nat.reduceAdd, Nat.reduceSub, Nat.reduceLeDiff, false_implies, true_implies, not_false_eq_true, not_true_eq_false, and_true, mm_sh, hm, mjs_up_at, mjs_up_c, mjs_up_f]
              exact hq _ (rr_f (f := 5) (by decide) (by decide) hJ)
            · simp +decide only [mjs_0, mjs_1, mjs_2, mjs_3, mjs_ble, true_and, Bool.false_eq_true, if_false, if_true, Nat.reduceAdd, Nat.reduceSub, Nat.reduceLeDiff, false_implies, true_implies, not_false_eq_true, not_true_eq_false, and_true, e2]
              refine mj_blk rfl ?_
              simp +decide only [mjs_0, mjs_1, mjs_2, mjs_3, mjs_ble, true_and, Bool.false_eq_true, if_false, if_true, Nat.reduceAdd, Nat.reduceSub, Nat.reduceLeDiff, false_implies, true_implies, not_false_eq_true, not_true_eq_false, and_true]
              have := K93 (fun hh => e0 hh.2) (-1) (by
                unfold dn
                rw [if_neg e1, if_pos e2]
                obtain ⟨z, hz⟩ : ∃ z, dq f len = z + 1 := ⟨dq f len - 1, by omega⟩
                rw [hz, Nat.add_sub_cancel, pk_m1])
              rw [e2] at this
              exact mj_nv this
          · have n2 : ¬ nI (cg t) = 2 := fun e => e2 ((nI_eq (by omega) (by decide)).mp (show nI (cg t) = nI 2 from e))
            simp +decide only [mjs_0, mjs_1, mjs_2, mjs_3, mjs_ble, true_and, Bool.false_eq_true, if_false, if_true, Nat.reduceAdd, Nat.reduceSub, Nat.reduceLeDiff, false_implies, true_implies, not_false_eq_true, not_true_eq_false, and_true]
            refine ⟨fun _ => mj_blk rfl ?_, fun qq => absurd n2 qq⟩
            simp +decide only [mjs_0, mjs_1, mjs_2, mjs_3, mjs_ble, true_and, Bool.false_eq_true, if_false, if_true, Nat.reduceAdd, Nat.reduceSub, Nat.reduceLeDiff, false_implies, true_implies, not_false_eq_true, not_true_eq_false, and_true]
            exact mj_nv (K93 (fun hh => e2 hh.1) 0 (by unfold dn; rw [if_neg e1, if_neg e2, Int32.add_zero]))
      · have hgt : ¬ len + 1 ≤ 10000 := fun hh => q (nI_le (a := len + 1) (b := 10000) hh (by decide))
        have hl : len = 10000 := by omega
        simp +decide only [mjs_0, mjs_1, mjs_2, mjs_3, mjs_ble, true_and, Bool.false_eq_true, if_false, if_true, Nat.reduceAdd, Nat.reduceSub, Nat.reduceLeDiff, false_implies, true_implies, not_false_eq_true, not_true_eq_false, and_true, mc_sh, hr, mjs_up_at, mjs_up_c, mjs_up_f]
        refine c_80 s59_1 hr' ?_
        simp +decide only [mjs_0, mjs_1, mjs_2, mjs_3, mjs_ble, true_and, Bool.false_eq_true, if_false, if_true, Nat.reduceAdd, Nat.reduceSub, Nat.reduceLeDiff, false_implies, true_implies, not_false_eq_true, not_true_eq_false, and_true]
        refine hqF _ _ (rc_f a1 a2) (rm_f r32 ?_)
        intro H Lg d nc ns J Q hJ hA hq
        have e10 : nI len = 10000 := by
          rw [hl]
          rfl
        unfold v_T
        refine mj_blk rfl ?_
        simp +decide only [mjs_0, mjs_1, mjs_2, mjs_3, mjs_ble, true_and, Bool.false_eq_true, if_false, if_true, Nat.reduceAdd, Nat.reduceSub, Nat.reduceLeDiff, false_implies, true_implies, not_false_eq_true, not_true_eq_false, and_true, mm_sh, hm, mjs_up_at, mjs_up_c, mjs_up_f, e10]
        refine mj_blk rfl ?_
        simp +decide only [mjs_0, mjs_1, mjs_2, mjs_3, mjs_ble, true_and, Bool.false_eq_true, if_false, if_true, Nat.reduceAdd, Nat.reduceSub, Nat.reduceLeDiff, false_implies, true_implies, not_false_eq_true, not_true_eq_false, and_true, mm_sh, hm, mjs_up_at, mjs_up_c, mjs_up_f]
        refine c_106 s59_36 ?_
        rw [if_pos (rr_d hJ).1.2.2.2]
        simp +decide only [mjs_0, mjs_1, mjs_2, mjs_3, mjs_ble, true_and, Bool.false_eq_true, if_false, if_true, Nat.reduceAdd, Nat.reduceSub, Nat.reduceLeDiff, false_implies, true_implies, not_false_eq_true, not_true_eq_false, and_true, mm_sh, hm, mjs_up_at, mjs_up_c, mjs_up_f]
        refine mj_blk rfl ?_
        simp +decide only [mjs_0, mjs_1, mjs_2, mjs_3, mjs_ble, true_and, Bool.false_eq_true, if_false, if_true, Nat.reduceAdd, Nat.reduceSub, Nat.reduceLeDiff, false_implies, true_implies, not_false_eq_true, not_true_eq_false, and_true, mm_sh, hm, mjs_up_at, mjs_up_c, mjs_up_f]
        refine mj_blk rfl ?_
        simp +decide only [mjs_0, mjs_1, mjs_2, mjs_3, mjs_ble, true_and, Bool.false_eq_true, if_false, if_true, Nat.reduceAdd, Nat.reduceSub, Nat.reduceLeDiff, false_implies, true_implies, not_false_eq_true, not_true_eq_false, and_true, mm_sh, hm, mjs_up_at, mjs_up_c, mjs_up_f]
        refine mj_blk rfl ?_
        simp +decide only [mjs_0, mjs_1, mjs_2, mjs_3, mjs_ble, true_and, Bool.false_eq_true, if_false, if_true, Nat.reduceAdd, Nat.reduceSub, Nat.reduceLeDiff, false_implies, true_implies, not_false_eq_true, not_true_eq_false, and_true, mm_sh, hm, mjs_up_at, mjs_up_c, mjs_up_f]
        exact hq _ (rr_f (f := 2) (by decide) (by decide) hJ)
    · simp +decide only [mjs_0, mjs_1, mjs_2, mjs_3, mjs_ble, true_and, Bool.false_eq_true, if_false, if_true, Nat.reduceAdd, Nat.reduceSub, Nat.reduceLeDiff, false_implies, true_implies, not_false_eq_true, not_true_eq_false, and_true]
      refine hqF g' I' a1 (rm_f hM ?_)
      intro H Lg d nc ns J Q hJ hA hq
      unfold v_E
      refine mj_blk rfl ?_
      simp +decide only [mjs_0, mjs_1, mjs_2, mjs_3, mjs_ble, true_and, Bool.false_eq_true, if_false, if_true, Nat.reduceAdd, Nat.reduceSub, Nat.reduceLeDiff, false_implies, true_implies, not_false_eq_true, not_true_eq_false, and_true, mm_sh, hm, mjs_up_at, mjs_up_c, mjs_up_f]
      refine mj_blk rfl ?_
      simp +decide only [mjs_0, mjs_1, mjs_2, mjs_3, mjs_ble, true_and, Bool.false_eq_true, if_false, if_true, Nat.reduceAdd, Nat.reduceSub, Nat.reduceLeDiff, false_implies, true_implies, not_false_eq_true, not_true_eq_false, and_true, mm_sh, hm, mjs_up_at, mjs_up_c, mjs_up_f]
      refine a2 H Lg d nc ns J _ hJ (fun J' hJ' => ?_)
      simp +decide only [mjs_0, mjs_1, mjs_2, mjs_3, mjs_ble, true_and, Bool.false_eq_true, if_false, if_true, Nat.reduceAdd, Nat.reduceSub, Nat.reduceLeDiff, false_implies, true_implies, not_false_eq_true, not_true_eq_false, and_true, mm_sh, hm, mjs_up_at, mjs_up_c, mjs_up_f]
      refine ⟨fun _ => mj_blk rfl ?_, fun q => absurd (rd_ne hJ') q⟩
      simp +decide only [mjs_0, mjs_1, mjs_2, mjs_3, mjs_ble, true_and, Bool.false_eq_true, if_false, if_true, Nat.reduceAdd, Nat.reduceSub, Nat.reduceLeDiff, false_implies, true_implies, not_false_eq_true, not_true_eq_false, and_true, mm_sh, hm, mjs_up_at, mjs_up_c, mjs_up_f]
      refine ⟨fun _ => mj_blk rfl ?_, fun q => absurd (rd_ne hJ') q⟩
      simp +decide only [mjs_0, mjs_1, mjs_2, mjs_3, mjs_ble, true_and, Bool.false_eq_true, if_false, if_true, Nat.reduceAdd, Nat.reduceSub, Nat.reduceLeDiff, false_implies, true_implies, not_false_eq_true, not_true_eq_false, and_true, mm_sh, hm, mjs_up_at, mjs_up_c, mjs_up_f]
      refine ⟨fun q => absurd q (rd_nle hJ'), fun _ => mj_blk rfl ?_⟩
      simp +decide only [mjs_0, mjs_1, mjs_2, mjs_3, mjs_ble, true_and, Bool.false_eq_true, if_false, if_true, Nat.reduceAdd, Nat.reduceSub, Nat.reduceLeDiff, false_implies, true_implies, not_false_eq_true, not_true_eq_false, and_true, mm_sh, hm, mjs_up_at, mjs_up_c, mjs_up_f]
      exact hq J' hJ'
/-- one argument with delimiters: class and reference -/
theorem p_12 (hR : mj_Rt mp_R Rf) (hM' : mj_Rt mm_R Rf) (hr' : nc + 1 ≤ X.2.2.1 ∧ ns + 6 ≤ X.2.2.2) (hn : n < 9) (hm1 : 1 ≤ many) (hu : first + many ≤ M.2.2.2.1) (hdl : ∀ i, i < many → M.1 (first + i) < 2097152 ∧ ¬ (256 ≤ M.1 (first + i) ∧ M.1 (first + i) < 768)) (hv : gv (K, P, E, N, S, M, C, O, L)) (h : RC fb vb (K, P, E, N, S, M, C, O, L) I) (hp : P.length ≤ 10000) (hA : caA n A fi fb) (hfi : fi + P.length + tl L ≤ 14100)
    (hQ1 : ∀ fb' P' N' L' I' f len fi', gv (K, P', E, N', S, M, C, O, L') → RC fb' vb (K, P', E, N', S, M, C, O, L') I' → ge P N L P' N' L' → caA (n + 1) (ud A n (f, len)) fi' fb' → fi' + P'.length + tl L' ≤ 14100 → (∀ i, i < len → tv N'.2.2 (f i)) → RX X Rf 7 145 [.ref 36, .int (nI n), .int (nI first), .int (nI (first + many))] (K, P, E, N, S, M, C, O, L) (raA n A) none (K, P', E, N', S, M, C, O, L') (raA (n + 1) (ud A n (f, len))) → Q (.inl none) (sh59, I', Lg, Rf, nc, ns))
    (hQ3 : ∀ g' I', RCf fb vb g' I' → RY X Rf 7 145 [.ref 36, .int (nI n), .int (nI first), .int (nI (first + many))] (K, P, E, N, S, M, C, O, L) (raA n A) none g' → Q (.inr 500) (sh59, I', Lg, Rf, nc + 1, ns + 6)) :
    mj_call X mj_P (mj_bi X) (d + 3) 12 [.ref 30, .int (nI (n + 1)), .int (nI first), .int (nI (first + many))] (sh59, I, Lg, Rf, nc, ns) Q := by
  have hr := mc_rf hR
  have hm := mm_rf hM'
  have e0 : (nI (n + 1)).toNatClampNeg = n + 1 := nI_clamp (by omega)
  have e3 : (nI n).toNatClampNeg = n := nI_clamp (by omega)
  have i3 : I 30 3 = nI fi := ((rc_fb h 3).1).trans hA.1
  have hu2 : M.2.2.2.1 ≤ 10000 := (gv_d hv).2.2.2.2.1.2.2.1.2.1
  have es : nI (first + many) - nI first = nI many := by
    rw [pk_sub (by omega)]
    congr 1
    omega
  have qF : ∀ g' I', RCf fb vb g' I' → RMf X Rf mb_145 6 0 (v_0 n first many) [] (K, P, E, N, S, M, C, O, L) (raA n A) none g' → Q (.inr 500) (sh59, I', Lg, Rf, nc + 1, ns + 6) := fun g' I' q1 q2 => hQ3 g' I' q1 (ry_in (z := 10) (by decide) rfl rfl rfl q2)
  refine mj_enter (z := (11, [], mb_12)) (by decide) rfl rfl ?_
  refine mj_blk rfl ?_
  simp +decide only [mjs_0, mjs_1, mjs_2, mjs_3, mjs_ble, true_and, Bool.false_eq_true, if_false, if_true, Nat.reduceAdd, Nat.reduceSub, Nat.reduceLeDiff, false_implies, true_implies, not_false_eq_true, not_true_eq_false, and_true, mc_sh, hr, mjs_up_at, mjs_up_c, mjs_up_f, i3]
  refine mj_nv (p_12l (d := d) (bg := fi) (A := A) (g0 := (K, P, E, N, S, M, C, O, L)) (A0 := raA n A) (vb := vb) hR hM' hr' hn hm1 hu (fun i hi => (hdl i hi).1) (P.length + tl L) 0 (fun _ => 0) (-1) fb P N L I (Nat.le_refl _) hp (by omega) (by omega) (caP_0 (by omega) hA) (Or.inl ⟨rfl, fun c h1 h2 => absurd h2 (by omega)⟩) (fun i hi => absurd hi (Nat.not_lt_zero _)) (fun i hi => absurd hi (Nat.not_lt_zero _)) hv h ?_ (fun fb' P' N' L' I' f len cl b1 b2 b3 b4 b5 b6 b7 b8 b9 b10 b11 b12 => ?_) qF)
  · intro H Lg d nc ns J Q hJ hA hq
    unfold v_0
    refine mj_blk rfl ?_
    simp +decide only [mjs_0, mjs_1, mjs_2, mjs_3, mjs_ble, true_and, Bool.false_eq_true, if_false, if_true, Nat.reduceAdd, Nat.reduceSub, Nat.reduceLeDiff, false_implies, true_implies, not_false_eq_true, not_true_eq_false, and_true, mm_sh, hm, mjs_up_at, mjs_up_c, mjs_up_f, es]
    exact mj_nv (hq H J hx_rf hJ (raP_0 hA))
  · have h30 : I' 30 3 = nI (fi + len) := ((rc_fb b2 3).1).trans b4.1.1
    have hml := b11.1
    have ee : nI (fi + len) - nI many = nI (fi + (len - many)) := by
      rw [pk_sub (by omega)]
      congr 1
      omega
    have hz : dq f (len - many) = 0 := (ew_dq b11 (fun i hi => (hdl i hi).2)).trans b10
    have hbr := cl_brd (n := len - many) (by omega) (by omega) b5 hz
    have hk : N'.2.2 ≤ 1036 := (gv_d b1).2.2.1.2.1
    have htv' : ∀ i, i < len - many → tv N'.2.2 (f i) := fun i hi => b8 i (by omega)
    obtain ⟨x1, x2⟩ := rx_146 (X := X) (Rf := Rf) (A := A) hM' b1 hn (by omega) htv' (fun i hi => b9 i (by omega))
    -- the reference to its end
    have rE : ∀ (f' : Nat → Nat) (len' : Nat), RX X Rf 3 146 [.ref 36, .int (nI n)] (K, P', E, N', S, M, C, O, L') (raB n A f (len - many)) none (K, P', E, N', S, M, C, O, L') (raA (n + 1) (ud A n (f', len'))) → RX X Rf 7 145 [.ref 36, .int (nI n), .int (nI first), .int (nI (first + many))] (K, P, E, N, S, M, C, O, L) (raA n A) none (K, P', E, N', S, M, C, O, L') (raA (n + 1) (ud A n (f', len'))) := by
      intro f' len' hx146
      refine rx_in (z := 10) (by decide) rfl rfl rfl (rm_e b12 ?_)
      intro H Lg d nc ns J Q hJ hA hq
      have ee2 : nI len - nI many = nI (len - many) := pk_sub hml
      unfold v_E
      refine mj_blk rfl ?_
      simp +decide only [mjs_0, mjs_1, mjs_2, mjs_3, mjs_ble, true_and, Bool.false_eq_true, if_false, if_true, Nat.reduceAdd, Nat.reduceSub, Nat.reduceLeDiff, false_implies, true_implies, not_false_eq_true, not_true_eq_false, and_true, mm_sh, hm, mjs_up_at, mjs_up_c, mjs_up_f]
      refine mj_blk rfl ?_
      simp +decide only [mjs_0, mjs_1, mjs_2, mjs_3, mjs_ble, true_and, Bool.false_eq_true, if_false, if_true, Nat.reduceAdd, Nat.reduceSub, Nat.reduceLeDiff, false_implies, true_implies, not_false_eq_true, not_true_eq_false, and_true, mm_sh, hm, mjs_up_at, mjs_up_c, mjs_up_f, ee2, e3]
      refine ⟨nI_in hn (by decide), ?_⟩
      refine hx146 _ Lg (d + 3) nc ns _ _ (rr_55 hJ) ⟨⟨raA_55 hA.1, fun i hi => ?_⟩, mjs_up_at⟩ (fun H' J' c1 c2 c3 => ?_)
      · rw [mjs_up_c (by decide)]
        exact hA.2 i (by omega)
      · simp +decide only [mjs_0, mjs_1, mjs_2, mjs_3, mjs_ble, true_and, Bool.false_eq_true, if_false, if_true, Nat.reduceAdd, Nat.reduceSub, Nat.reduceLeDiff, false_implies, true_implies, not_false_eq_true, not_true_eq_false, and_true, mm_sh, hm, mjs_up_at, mjs_up_c, mjs_up_f]
        exact hq H' J' (hx_tr (hx_up (by decide)) c1) c2 c3
    -- the class to its end
    have cE : ∀ (a b : Nat) (fo : Int32) (w2 w3 w4 : Option Value), a + b ≤ len → (fo = 0 ∧ a = 0 ∧ b = len - many ∨ fo = 1 ∧ a = 1 ∧ b = len - many - 2 ∧ 2 ≤ len - many) → RX X Rf 3 146 [.ref 36, .int (nI n)] (K, P', E, N', S, M, C, O, L') (raB n A f (len - many)) none (K, P', E, N', S, M, C, O, L') (raA (n + 1) (ud A n (fun i => f (a + i), b))) → mj_rn X (mj_hd []) (mj_call X mj_P (mj_bi X) (d + 2)) mb_12 197 [some (.ref 30), some (.int (nI (n + 1))), none, none, some (.int (nI fi)), none, none, none, some (.int (nI (fi + (len - many)))), none, none] [.int fo] (sh59, I', Lg, Rf, nc, ns) Q := by
      intro a b fo w2 w3 w4 hab hfo hx146
      have hca := caA_end (a := a) (b := b) (g := fun i => f (a + i)) (by omega) b4 hab (fun i _ => rfl)
      have fin : ∀ I2, RC (mj_up (mj_up fb' 32 (n + 1) (nI (fi + a))) 33 (n + 1) (nI (fi + a + b))) vb (K, P', E, N', S, M, C, O, L') I2 → Q (.inl none) (sh59, I2, Lg, Rf, nc, ns) := fun I2 c2 => hQ1 _ P' N' L' I2 (fun i => f (a + i)) b (fi + len) b1 c2 b3 hca b7 (fun i hi => b8 (a + i) (by omega)) (rE _ _ hx146)
      rcases hfo with ⟨rfl, rfl, rfl⟩ | ⟨rfl, rfl, rfl, h2⟩
      · refine mj_blk rfl ?_
        simp +decide only [mjs_0, mjs_1, mjs_2, mjs_3, mjs_ble, true_and, Bool.false_eq_true, if_false, if_true, Nat.reduceAdd, Nat.reduceSub, Nat.reduceLeDiff, false_implies, true_implies, not_false_eq_true, not_true_eq_false, and_true, mc_sh, hr, mjs_up_at, mjs_up_c, mjs_up_f]
        refine mj_blk rfl ?_
        simp +decide only [mjs_0, mjs_1, mjs_2, mjs_3, mjs_ble, true_and, Bool.false_eq_true, if_false, if_true, Nat.reduceAdd, Nat.reduceSub, Nat.reduceLeDiff, false_implies, true_implies, not_false_eq_true, not_true_eq_false, and_true, mc_sh, hr, mjs_up_at, mjs_up_c, mjs_up_f]
        refine mj_blk rfl ?_
        simp +decide only [mjs_0, mjs_1, mjs_2, mjs_3, mjs_ble, true_and, Bool.false_eq_true, if_false, if_true, Nat.reduceAdd, Nat.reduceSub, Nat.reduceLeDiff, false_implies, true_implies, not_false_eq_true, not_true_eq_false, and_true, mc_sh, hr, mjs_up_at, mjs_up_c, mjs_up_f, e0]
        refine ⟨nI_in (by omega) (by decide), ?_⟩
        refine mj_blk rfl ?_
        simp +decide only [mjs_0, mjs_1, mjs_2, mjs_3, mjs_ble, true_and, Bool.false_eq_true, if_false, if_true, Nat.reduceAdd, Nat.reduceSub, Nat.reduceLeDiff, false_implies, true_implies, not_false_eq_true, not_true_eq_false, and_true, mc_sh, hr, mjs_up_at, mjs_up_c, mjs_up_f]
        refine mj_blk rfl ?_
        simp +decide only [mjs_0, mjs_1, mjs_2, mjs_3, mjs_ble, true_and, Bool.false_eq_true, if_false, if_true, Nat.reduceAdd, Nat.reduceSub, Nat.reduceLeDiff, false_implies, true_implies, not_false_eq_true, not_true_eq_false, and_true, mc_sh, hr, mjs_up_at, mjs_up_c, mjs_up_f, e0]
        refine ⟨nI_in (by omega) (by decide), ?_⟩
        exact fin _ (rc_33 (rc_32 b2))
      · have e5 : nI (fi + (len - many)) - 1 = nI (fi + 1 + (len - many - 2)) := by
          rw [show fi + (len - many) = fi + 1 + (len - many - 2) + 1 by omega, nI_pred]
        refine mj_blk rfl ?_
        simp +decide only [mjs_0, mjs_1, mjs_2, mjs_3, mjs_ble, true_and, Bool.false_eq_true, if_false, if_true, Nat.reduceAdd, Nat.reduceSub, Nat.reduceLeDiff, false_implies, true_implies, not_false_eq_true, not_true_eq_false, and_true, mc_sh, hr, mjs_up_at, mjs_up_c, mjs_up_f]
        refine mj_blk rfl ?_
        simp +decide only [mjs_0, mjs_1, mjs_2, mjs_3, mjs_ble, true_and, Bool.false_eq_true, if_false, if_true, Nat.reduceAdd, Nat.reduceSub, Nat.reduceLeDiff, false_implies, true_implies, not_false_eq_true, not_true_eq_false, and_true, mc_sh, hr, mjs_up_at, mjs_up_c, mjs_up_f, nI_1]
        refine mj_blk rfl ?_
        simp +decide only [mjs_0, mjs_1, mjs_2, mjs_3, mjs_ble, true_and, Bool.false_eq_true, if_false, if_true, Nat.reduceAdd, Nat.reduceSub, Nat.reduceLeDiff, false_implies, true_implies, not_false_eq_true, not_true_eq_false, and_true, mc_sh, hr, mjs_up_at, mjs_up_c, mjs_up_f, e0]
        refine ⟨nI_in (by omega) (by decide), ?_⟩
        refine mj_blk rfl ?_
        simp +decide only [mjs_0, mjs_1, mjs_2, mjs_3, mjs_ble, true_and, Bool.false_eq_true, if_false, if_true, Nat.reduceAdd, Nat.reduceSub, Nat.reduceLeDiff, false_implies, true_implies, not_false_eq_true, not_true_eq_false, and_true, mc_sh, hr, mjs_up_at, mjs_up_c, mjs_up_f, e5]
        refine mj_blk rfl ?_
        simp +decide only [mjs_0, mjs_1, mjs_2, mjs_3, mjs_ble, true_and, Bool.false_eq_true, if_false, if_true, Nat.reduceAdd, Nat.reduceSub, Nat.reduceLeDiff, false_implies, true_implies, not_false_eq_true, not_true_eq_false, and_true, mc_sh, hr, mjs_up_at, mjs_up_c, mjs_up_f, e0]
        refine ⟨nI_in (by omega) (by decide), ?_⟩
        exact fin _ (rc_33 (rc_32 b2))
    have c196 : ¬ brd f (len - many) → mj_rn X (mj_hd []) (mj_call X mj_P (mj_bi X) (d + 2)) mb_12 196 [some (.ref 30), some (.int (nI (n + 1))), none, none, some (.int (nI fi)), none, none, none, some (.int (nI (fi + (len - many)))), none, none] [] (sh59, I', Lg, Rf, nc, ns) Q := by
      intro hno
      have := cE 0 (len - many) 0 none none none (by omega) (Or.inl ⟨rfl, rfl, rfl⟩) (by simpa only [Nat.zero_add] using x2 hno)
      refine mj_blk rfl ?_
      simp +decide only [mjs_0, mjs_1, mjs_2, mjs_3, mjs_ble, true_and, Bool.false_eq_true, if_false, if_true, Nat.reduceAdd, Nat.reduceSub, Nat.reduceLeDiff, false_implies, true_implies, not_false_eq_true, not_true_eq_false, and_true]
      exact mj_nv this
    refine mj_blk rfl ?_
    simp +decide only [mjs_0, mjs_1, mjs_2, mjs_3, mjs_ble, true_and, Bool.false_eq_true, if_false, if_true, Nat.reduceAdd, Nat.reduceSub, Nat.reduceLeDiff, false_implies, true_implies, not_false_eq_true, not_true_eq_false, and_true, mc_sh, hr, mjs_up_at, mjs_up_c, mjs_up_f, h30, es, ee]
    by_cases e : cl = nI (fi + (len - many))
    · refine ⟨fun q => absurd e q, fun _ => mj_blk rfl ?_⟩
      have hn1 : 1 ≤ len - many := by
        rcases b5 with ⟨b51, _⟩ | ⟨c, c1, c2, c3, _⟩
        · exact absurd (e.symm.trans b51) (fun ee => absurd (nI_pos (n := fi + (len - many)) (by omega)) (by rw [ee]; decide))
        · have : fi + (len - many) = fi + c := (nI_eq (by omega) (by omega)).mp (e.symm.trans c3)
          omega
      have ef : (nI fi).toNatClampNeg = fi := nI_clamp (by omega)
      have t0 : I' 31 fi = nI (f 0) := ((rc_fb b2 fi).2.1).trans (b4.2.2 0 (by omega))
      have tl0 := tv_lt hk (b8 0 (by omega))
      simp +decide only [mjs_0, mjs_1, mjs_2, mjs_3, mjs_ble, true_and, Bool.false_eq_true, if_false, if_true, Nat.reduceAdd, Nat.reduceSub, Nat.reduceLeDiff, false_implies, true_implies, not_false_eq_true, not_true_eq_false, and_true, mc_sh, hr, mjs_up_at, mjs_up_c, mjs_up_f, ef, t0]
      refine ⟨nI_in (by omega) (by decide), ?_⟩
      refine cq_189 (by omega) ?_
      by_cases e1 : cg (f 0) = 1
      · have hb := hbr.mp ⟨e, e1⟩
        simp +decide only [mjs_0, mjs_1, mjs_2, mjs_3, mjs_ble, true_and, Bool.false_eq_true, if_false, if_true, Nat.reduceAdd, Nat.reduceSub, Nat.reduceLeDiff, false_implies, true_implies, not_false_eq_true, not_true_eq_false, and_true, e1]
        refine mj_blk rfl ?_
        simp +decide only [mjs_0, mjs_1, mjs_2, mjs_3, mjs_ble, true_and, Bool.false_eq_true, if_false, if_true, Nat.reduceAdd, Nat.reduceSub, Nat.reduceLeDiff, false_implies, true_implies, not_false_eq_true, not_true_eq_false, and_true]
        exact mj_nv (cE 1 (len - many - 2) 1 none none none (by omega) (Or.inr ⟨rfl, rfl, rfl, hb.1⟩) (by simpa only [Nat.add_comm] using x1 hb))
      · have hcg : cg (f 0) ≤ 16 := by
          unfold cg
          split <;> omega
        have n1 : ¬ nI (cg (f 0)) = 1 := fun q => e1 ((nI_eq (by omega) (by decide)).mp (show nI (cg (f 0)) = nI 1 from q))
        simp +decide only [mjs_0, mjs_1, mjs_2, mjs_3, mjs_ble, true_and, Bool.false_eq_true, if_false, if_true, Nat.reduceAdd, Nat.reduceSub, Nat.reduceLeDiff, false_implies, true_implies, not_false_eq_true, not_true_eq_false, and_true]
        exact ⟨fun _ => mj_nv (c196 (fun hb => e1 hb.2.1)), fun q => absurd n1 q⟩
    · exact ⟨fun _ => mj_nv (c196 (fun hb => e (hbr.mpr hb).1)), fun q => absurd e q⟩
end MJUT
