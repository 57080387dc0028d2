/-! ALL ARGUMENTS OF A MACRO, in both: the parameters -/
section MJPM
variable {X : mj_X} {d nc ns : Nat} {Q : mj_Q} {I I' J J' H : Nat → Nat → Int32} {Lg : Nat → Nat → Int64} {Rf : Nat → Nat → Option Nat} {fb : Nat → Nat → Int32} {vb : Nat → Int32} {K : Nat × Nat × Nat} {P : List Nat} {E : sgE} {N : sgN} {S : sgS} {M : sgM} {C : sgC} {O : sgO} {L L' : sgL} {t n bg fi a b s bo e kt : Nat} {A : Nat → (Nat → Nat) × Nat} {f : Nat → Nat} {len many first dp : Nat} {g0 : sg} {A0 : (Nat → Nat → Int32) → Prop}
def mcA (s bo e kt b k : Nat) (A : Nat → (Nat → Nat) × Nat) (H : Nat → Nat → Int32) : Prop := mcB s bo e kt b H ∧ raA k A H
/-- arguments are of tokens -/
def gA (k n : Nat) (A : Nat → (Nat → Nat) × Nat) : Prop := ∀ q, q < n → ∀ z, z < (A q).2 → tv k ((A q).1 z)
theorem gA_up {k k' n : Nat} (hk : k ≤ k') (h : gA k n A) (hf : ∀ i, i < len → tv k' (f i)) : gA k' (n + 1) (ud A n (f, len)) := by
  intro q hq z hz
  by_cases eq : q = n
  · rw [eq, ud_at] at hz ⊢
    exact hf z hz
  · rw [ud_ne eq] at hz ⊢
    exact tv_mono hk (h q (by omega) z hz)
theorem gA_mono {k k' n : Nat} (hk : k ≤ k') (h : gA k n A) : gA k' n A := fun q hq z hz => tv_mono hk (h q hq z hz)
theorem p_10l (hR : mj_Rt mp_R Rf) (hM' : mj_Rt mm_R Rf) (hr' : nc + 1 ≤ X.2.2.1 ∧ ns + 6 ≤ X.2.2.2) (hbo : bo ≤ M.2.2.2.1) (hkt : kt = np M.1 s (bo - s)) (hk9 : kt ≤ 9) {A0 : Nat → (Nat → Nat → Int32) → Prop} (hmo : ∀ i, s ≤ i → i < bo → 2097152 ≤ M.1 i → M.1 i = 2097153 + np M.1 s (i - s)) (hnb : ∀ i, s ≤ i → i < bo → ¬ (256 ≤ M.1 i ∧ M.1 i < 768)) : ∀ (m i k fi : Nat) (A : Nat → (Nat → Nat) × Nat) (fb : Nat → Nat → Int32) (P : List Nat) (N : sgN) (L : sgL) (I : Nat → Nat → Int32), bo - i ≤ m → s ≤ i → i ≤ bo → (i < bo → 2097152 ≤ M.1 i) → k = np M.1 s (i - s) → caA k A fi fb → fi + P.length + tl L ≤ 14100 → gA N.2.2 k A → P.length ≤ 10000 → gv (K, P, E, N, S, M, C, O, L) → RC fb vb (K, P, E, N, S, M, C, O, L) I → (∀ b, b < 30001 → RM X Rf mb_142 7 0 (k_0 b) [] g0 (A0 b) 75 (k_75 b i k) [] (K, P, E, N, S, M, C, O, L) (mcA s bo e kt b k A)) →
    (∀ A' fi' fb' P' N' L' I', gv (K, P', E, N', S, M, C, O, L') → RC fb' vb (K, P', E, N', S, M, C, O, L') I' → ge P N L P' N' L' → caA kt A' fi' fb' → fi' ≤ 14100 → gA N'.2.2 kt A' → (∀ b, b < 30001 → RM X Rf mb_142 7 0 (k_0 b) [] g0 (A0 b) 164 (k_0 b) [] (K, P', E, N', S, M, C, O, L') (mcA s bo e kt b kt A')) → Q (.inl none) (sh59, I', Lg, Rf, nc, ns)) →
    (∀ g' I', RCf fb vb g' I' → (∀ b, b < 30001 → RMf X Rf mb_142 7 0 (k_0 b) [] g0 (A0 b) none g') → Q (.inr 500) (sh59, I', Lg, Rf, nc + 1, ns + 6)) →
    mj_rn X (mj_hd []) (mj_call X mj_P (mj_bi X) (d + 3)) mb_10 81 [some (.ref 30), none, some (.int (nI bo)), some (.int (nI i)), none, none] [] (sh59, I, Lg, Rf, nc, ns) Q := by
  have hr := mc_rf hR
  have hm := mm_rf hM'
  have eb : ∀ b, b < 30001 → (nI b).toNatClampNeg = b := fun b hb => nI_clamp (by omega)
  intro m
  induction m using Nat.strongRecOn with
  | ind m ih =>
    intro i k fi A fb P N L I him hsi hib hpi hki hA hfi hgA hp hv h hM hqA hqF
    have hu2 : M.2.2.2.1 ≤ 10000 := (gv_d hv).2.2.2.2.1.2.2.1.2.1
    refine mj_blk rfl ?_
    simp +decide only [mjs_0, mjs_1, mjs_2, mjs_3, mjs_ble, true_and, Bool.false_eq_true, if_false, if_true, Nat.reduceAdd, Nat.reduceSub, Nat.reduceLeDiff, false_implies, true_implies, not_false_eq_true, not_true_eq_false, and_true]
    by_cases elt : i < bo
    · have ep := hpi elt
      have hMi := hmo i hsi elt ep
      have ei : (nI i).toNatClampNeg = i := nI_clamp (by omega)
      have hi1 : np M.1 s (i + 1 - s) = k + 1 := by
        rw [show i + 1 - s = i - s + 1 by omega, np_s, show s + (i - s) = i by omega, if_pos ep, ← hki]
      have hk8 : k + 1 ≤ kt := by
        rw [← hi1, hkt, show bo - s = (i + 1 - s) + (bo - (i + 1)) by omega]
        exact np_le
      have hMi' : M.1 i = 2097153 + k := by rw [hMi, ← hki]
      have c22 : I 22 i = nI (2097153 + k) := ((rc_d h).2.2.2.2.2.1.2.2.1 i (by omega)).trans (by rw [hMi'])
      have e15 : nI (2097153 + k) &&& 15 = nI (k + 1) := by
        rw [bt_15]
        congr 1
        omega
      obtain ⟨j, j1, j2, j3, j4⟩ := nx_pl M.1 bo (bo - (i + 1)) (i + 1) (by omega)
      have hnj : np M.1 s (j - s) = k + 1 := by
        rw [← hi1, show j - s = (i + 1 - s) + (j - (i + 1)) by omega]
        refine np_no (fun q q1 q2 => ?_)
        have := j3 (s + q) (by omega) (by omega)
        omega
      -- the reference to its test for delimiters
      have r131 : (∀ b, b < 30001 → RM X Rf mb_142 7 0 (k_0 b) [] g0 (A0 b) 131 [some (.ref 36), some (.int (nI b)), none, some (.int (nI k)), some (.int (nI (i + 1))), some (.int (nI j))] [] (K, P, E, N, S, M, C, O, L) (mcA s bo e kt b k A)) := by
        refine fun b hb => rm_tr (hM b hb) ?_
        intro H Lg d nc ns J Q hJ hA hq
        have j48 : J 48 b = nI kt := (congrFun ((rr_d hJ).2.2.2.2.2.2.2.2.2 48 (by omega)) b).trans hA.1.2.2.2.2
        unfold k_75
        refine mj_blk rfl ?_
        simp +decide only [mjs_0, mjs_1, mjs_2, mjs_3, mjs_ble, true_and, Bool.false_eq_true, if_false, if_true, Nat.reduceAdd, Nat.reduceSub, Nat.reduceLeDiff, false_implies, true_implies, not_false_eq_true, not_true_eq_false, and_true, mm_sh, hm, mjs_up_at, mjs_up_c, mjs_up_f, eb b hb, j48]
        refine ⟨nI_in (by omega) (by decide), fun q => absurd q (nI_ge (a := k) (b := kt) (by omega) (by omega)), fun _ => mj_blk rfl ?_⟩
        simp +decide only [mjs_0, mjs_1, mjs_2, mjs_3, mjs_ble, true_and, Bool.false_eq_true, if_false, if_true, Nat.reduceAdd, Nat.reduceSub, Nat.reduceLeDiff, false_implies, true_implies, not_false_eq_true, not_true_eq_false, and_true, mm_sh, hm, mjs_up_at, mjs_up_c, mjs_up_f, (rr_d hJ).1.2.2.2]
        refine mj_blk rfl ?_
        simp +decide only [mjs_0, mjs_1, mjs_2, mjs_3, mjs_ble, true_and, Bool.false_eq_true, if_false, if_true, Nat.reduceAdd, Nat.reduceSub, Nat.reduceLeDiff, false_implies, true_implies, not_false_eq_true, not_true_eq_false, and_true, mm_sh, hm, mjs_up_at, mjs_up_c, mjs_up_f, nI_1]
        exact mj_nv (r_142n (first := i + 1) hM' hv hJ hA.1 hbo j2 j4 (hq H J hx_rf hJ hA) (j - (i + 1)) (i + 1) (by omega) j3)
      refine ⟨fun q => absurd q (nI_ge (a := i) (b := bo) (by omega) (by omega)), fun _ => mj_blk rfl ?_⟩
      simp +decide only [mjs_0, mjs_1, mjs_2, mjs_3, mjs_ble, true_and, Bool.false_eq_true, if_false, if_true, Nat.reduceAdd, Nat.reduceSub, Nat.reduceLeDiff, false_implies, true_implies, not_false_eq_true, not_true_eq_false, and_true, mc_sh, hr, mjs_up_at, mjs_up_c, mjs_up_f, ei, c22, e15, nI_1]
      refine ⟨nI_in (by omega) (by decide), ?_⟩
      refine mj_nv (c_10n (first := i + 1) hR hv h hbo j2 j4 (w4 := some (.int (nI (k + 1)))) ?_ (j - (i + 1)) (i + 1) (by omega) j3)
      by_cases ej : i + 1 = j
      · -- no delimiter
        refine mj_blk rfl ?_
        simp +decide only [mjs_0, mjs_1, mjs_2, mjs_3, mjs_ble, true_and, Bool.false_eq_true, if_false, if_true, Nat.reduceAdd, Nat.reduceSub, Nat.reduceLeDiff, false_implies, true_implies, not_false_eq_true, not_true_eq_false, and_true, ej]
        refine mj_blk rfl ?_
        simp +decide only [mjs_0, mjs_1, mjs_2, mjs_3, mjs_ble, true_and, Bool.false_eq_true, if_false, if_true, Nat.reduceAdd, Nat.reduceSub, Nat.reduceLeDiff, false_implies, true_implies, not_false_eq_true, not_true_eq_false, and_true, mc_sh]
        refine p_11 (n := k) (A := A) (fi := fi) hR hM' hr' (by omega) hv h hp hA hfi (fun fb' P' N' L' I' f len fi' a1 a2 a3 a4 a5 a6 a7 => ?_) (fun g' I' a1 a2 => ?_)
        · simp +decide only [mjs_0, mjs_1, mjs_2, mjs_3, mjs_ble, true_and, Bool.false_eq_true, if_false, if_true, Nat.reduceAdd, Nat.reduceSub, Nat.reduceLeDiff, false_implies, true_implies, not_false_eq_true, not_true_eq_false, and_true]
          refine mj_blk rfl ?_
          simp +decide only [mjs_0, mjs_1, mjs_2, mjs_3, mjs_ble, true_and, Bool.false_eq_true, if_false, if_true, Nat.reduceAdd, Nat.reduceSub, Nat.reduceLeDiff, false_implies, true_implies, not_false_eq_true, not_true_eq_false, and_true]
          refine mj_nv (ih (bo - j) (by omega) j (k + 1) fi' (ud A k (f, len)) fb' P' N' L' I' (Nat.le_refl _) (by omega) j2 j4 hnj.symm a4 a5 (gA_up a3.1.1 hgA a6) (by have := a3.2.2.1; omega) a1 a2 (fun b hb => rm_tr (r131 b hb) ?_) (fun A' fi' fb' P'' N'' L'' I'' b1 b2 b3 => hqA A' fi' fb' P'' N'' L'' I'' b1 b2 (ge_tr a3 b3)) hqF)
          intro H Lg d nc ns J Q hJ hA hq
          refine mj_blk rfl ?_
          simp +decide only [mjs_0, mjs_1, mjs_2, mjs_3, mjs_ble, true_and, Bool.false_eq_true, if_false, if_true, Nat.reduceAdd, Nat.reduceSub, Nat.reduceLeDiff, false_implies, true_implies, not_false_eq_true, not_true_eq_false, and_true, mm_sh, hm, mjs_up_at, mjs_up_c, mjs_up_f, ej]
          refine mj_blk rfl ?_
          simp +decide only [mjs_0, mjs_1, mjs_2, mjs_3, mjs_ble, true_and, Bool.false_eq_true, if_false, if_true, Nat.reduceAdd, Nat.reduceSub, Nat.reduceLeDiff, false_implies, true_implies, not_false_eq_true, not_true_eq_false, and_true, mm_sh, hm, mjs_up_at, mjs_up_c, mjs_up_f]
          refine a7 H Lg d nc ns J _ hJ hA.2 (fun H' J' c1 c2 c3 => ?_)
          simp +decide only [mjs_0, mjs_1, mjs_2, mjs_3, mjs_ble, true_and, Bool.false_eq_true, if_false, if_true, Nat.reduceAdd, Nat.reduceSub, Nat.reduceLeDiff, false_implies, true_implies, not_false_eq_true, not_true_eq_false, and_true, mm_sh, hm, mjs_up_at, mjs_up_c, mjs_up_f]
          refine mj_blk rfl ?_
          simp +decide only [mjs_0, mjs_1, mjs_2, mjs_3, mjs_ble, true_and, Bool.false_eq_true, if_false, if_true, Nat.reduceAdd, Nat.reduceSub, Nat.reduceLeDiff, false_implies, true_implies, not_false_eq_true, not_true_eq_false, and_true, mm_sh, hm, mjs_up_at, mjs_up_c, mjs_up_f, nI_1]
          exact mj_nv (hq H' J' c1 c2 ⟨mcB_hx c1 hA.1, c3⟩)
        · simp +decide only [mjs_0, mjs_1, mjs_2, mjs_3, mjs_ble, true_and, Bool.false_eq_true, if_false, if_true, Nat.reduceAdd, Nat.reduceSub, Nat.reduceLeDiff, false_implies, true_implies, not_false_eq_true, not_true_eq_false, and_true]
          refine hqF g' I' a1 (fun b hb => rm_f (r131 b hb) ?_)
          intro H Lg d nc ns J Q hJ hA hq
          refine mj_blk rfl ?_
          simp +decide only [mjs_0, mjs_1, mjs_2, mjs_3, mjs_ble, true_and, Bool.false_eq_true, if_false, if_true, Nat.reduceAdd, Nat.reduceSub, Nat.reduceLeDiff, false_implies, true_implies, not_false_eq_true, not_true_eq_false, and_true, mm_sh, hm, mjs_up_at, mjs_up_c, mjs_up_f, ej]
          refine mj_blk rfl ?_
          simp +decide only [mjs_0, mjs_1, mjs_2, mjs_3, mjs_ble, true_and, Bool.false_eq_true, if_false, if_true, Nat.reduceAdd, Nat.reduceSub, Nat.reduceLeDiff, false_implies, true_implies, not_false_eq_true, not_true_eq_false, and_true, mm_sh, hm, mjs_up_at, mjs_up_c, mjs_up_f]
          refine a2 H Lg d nc ns J _ hJ hA.2 (fun J' c1 => ?_)
          simp +decide only [mjs_0, mjs_1, mjs_2, mjs_3, mjs_ble, true_and, Bool.false_eq_true, if_false, if_true, Nat.reduceAdd, Nat.reduceSub, Nat.reduceLeDiff, false_implies, true_implies, not_false_eq_true, not_true_eq_false, and_true, mm_sh, hm, mjs_up_at, mjs_up_c, mjs_up_f]
          refine mj_blk rfl ?_
          simp +decide only [mjs_0, mjs_1, mjs_2, mjs_3, mjs_ble, true_and, Bool.false_eq_true, if_false, if_true, Nat.reduceAdd, Nat.reduceSub, Nat.reduceLeDiff, false_implies, true_implies, not_false_eq_true, not_true_eq_false, and_true, mm_sh, hm, mjs_up_at, mjs_up_c, mjs_up_f, nI_1]
          exact mj_nv (f_142k (i := j) (k := k + 1) hM' hb c1 hq)
      · have nj : ¬ nI (i + 1) = nI j := fun q => ej ((nI_eq (by omega) (by omega)).mp q)
        obtain ⟨many, hmany⟩ : ∃ many, j = i + 1 + many := ⟨j - (i + 1), by omega⟩
        refine mj_blk rfl ?_
        simp +decide only [mjs_0, mjs_1, mjs_2, mjs_3, mjs_ble, true_and, Bool.false_eq_true, if_false, if_true, Nat.reduceAdd, Nat.reduceSub, Nat.reduceLeDiff, false_implies, true_implies, not_false_eq_true, not_true_eq_false, and_true]
        refine ⟨fun _ => mj_blk rfl ?_, fun q => absurd nj q⟩
        simp +decide only [mjs_0, mjs_1, mjs_2, mjs_3, mjs_ble, true_and, Bool.false_eq_true, if_false, if_true, Nat.reduceAdd, Nat.reduceSub, Nat.reduceLeDiff, false_implies, true_implies, not_false_eq_true, not_true_eq_false, and_true, mc_sh]
        rw [hmany]
        refine p_12 (n := k) (A := A) (fi := fi) (first := i + 1) (many := many) hR hM' hr' (by omega) (by omega) (by omega) (fun q hq => ⟨j3 _ (by omega) (by omega), hnb _ (by omega) (by omega)⟩) hv h hp hA hfi (fun fb' P' N' L' I' f len fi' a1 a2 a3 a4 a5 a6 a7 => ?_) (fun g' I' a1 a2 => ?_)
        · rw [← hmany] at a7
          rw [← hmany]
          simp +decide only [mjs_0, mjs_1, mjs_2, mjs_3, mjs_ble, true_and, Bool.false_eq_true, if_false, if_true, Nat.reduceAdd, Nat.reduceSub, Nat.reduceLeDiff, false_implies, true_implies, not_false_eq_true, not_true_eq_false, and_true]
          refine mj_blk rfl ?_
          simp +decide only [mjs_0, mjs_1, mjs_2, mjs_3, mjs_ble, true_and, Bool.false_eq_true, if_false, if_true, Nat.reduceAdd, Nat.reduceSub, Nat.reduceLeDiff, false_implies, true_implies, not_false_eq_true, not_true_eq_false, and_true]
          refine mj_nv (ih (bo - j) (by omega) j (k + 1) fi' (ud A k (f, len)) fb' P' N' L' I' (Nat.le_refl _) (by omega) j2 j4 hnj.symm a4 a5 (gA_up a3.1.1 hgA a6) (by have := a3.2.2.1; omega) a1 a2 (fun b hb => rm_tr (r131 b hb) ?_) (fun A' fi' fb' P'' N'' L'' I'' b1 b2 b3 => hqA A' fi' fb' P'' N'' L'' I'' b1 b2 (ge_tr a3 b3)) hqF)
          intro H Lg d nc ns J Q hJ hA hq
          refine mj_blk rfl ?_
          simp +decide only [mjs_0, mjs_1, mjs_2, mjs_3, mjs_ble, true_and, Bool.false_eq_true, if_false, if_true, Nat.reduceAdd, Nat.reduceSub, Nat.reduceLeDiff, false_implies, true_implies, not_false_eq_true, not_true_eq_false, and_true, mm_sh, hm, mjs_up_at, mjs_up_c, mjs_up_f]
          refine ⟨fun _ => mj_blk rfl ?_, fun q => absurd nj q⟩
          simp +decide only [mjs_0, mjs_1, mjs_2, mjs_3, mjs_ble, true_and, Bool.false_eq_true, if_false, if_true, Nat.reduceAdd, Nat.reduceSub, Nat.reduceLeDiff, false_implies, true_implies, not_false_eq_true, not_true_eq_false, and_true, mm_sh, hm, mjs_up_at, mjs_up_c, mjs_up_f]
          refine a7 H Lg d nc ns J _ hJ hA.2 (fun H' J' c1 c2 c3 => ?_)
          simp +decide only [mjs_0, mjs_1, mjs_2, mjs_3, mjs_ble, true_and, Bool.false_eq_true, if_false, if_true, Nat.reduceAdd, Nat.reduceSub, Nat.reduceLeDiff, false_implies, true_implies, not_false_eq_true, not_true_eq_false, and_true, mm_sh, hm, mjs_up_at, mjs_up_c, mjs_up_f]
          refine mj_blk rfl ?_
          simp +decide only [mjs_0, mjs_1, mjs_2, mjs_3, mjs_ble, true_and, Bool.false_eq_true, if_false, if_true, Nat.reduceAdd, Nat.reduceSub, Nat.reduceLeDiff, false_implies, true_implies, not_false_eq_true, not_true_eq_false, and_true, mm_sh, hm, mjs_up_at, mjs_up_c, mjs_up_f, nI_1]
          exact mj_nv (hq H' J' c1 c2 ⟨mcB_hx c1 hA.1, c3⟩)
        · rw [← hmany] at a2
          simp +decide only [mjs_0, mjs_1, mjs_2, mjs_3, mjs_ble, true_and, Bool.false_eq_true, if_false, if_true, Nat.reduceAdd, Nat.reduceSub, Nat.reduceLeDiff, false_implies, true_implies, not_false_eq_true, not_true_eq_false, and_true]
          refine hqF g' I' a1 (fun b hb => rm_f (r131 b hb) ?_)
          intro H Lg d nc ns J Q hJ hA hq
          refine mj_blk rfl ?_
          simp +decide only [mjs_0, mjs_1, mjs_2, mjs_3, mjs_ble, true_and, Bool.false_eq_true, if_false, if_true, Nat.reduceAdd, Nat.reduceSub, Nat.reduceLeDiff, false_implies, true_implies, not_false_eq_true, not_true_eq_false, and_true, mm_sh, hm, mjs_up_at, mjs_up_c, mjs_up_f]
          refine ⟨fun _ => mj_blk rfl ?_, fun q => absurd nj q⟩
          simp +decide only [mjs_0, mjs_1, mjs_2, mjs_3, mjs_ble, true_and, Bool.false_eq_true, if_false, if_true, Nat.reduceAdd, Nat.reduceSub, Nat.reduceLeDiff, false_implies, true_implies, not_false_eq_true, not_true_eq_false, and_true, mm_sh, hm, mjs_up_at, mjs_up_c, mjs_up_f]
          refine a2 H Lg d nc ns J _ hJ hA.2 (fun J' c1 => ?_)
          simp +decide only [mjs_0, mjs_1, mjs_2, mjs_3, mjs_ble, true_and, Bool.false_eq_true, if_false, if_true, Nat.reduceAdd, Nat.reduceSub, Nat.reduceLeDiff, false_implies, true_implies, not_false_eq_true, not_true_eq_false, and_true, mm_sh, hm, mjs_up_at, mjs_up_c, mjs_up_f]
          refine mj_blk rfl ?_
          simp +decide only [mjs_0, mjs_1, mjs_2, mjs_3, mjs_ble, true_and, Bool.false_eq_true, if_false, if_true, Nat.reduceAdd, Nat.reduceSub, Nat.reduceLeDiff, false_implies, true_implies, not_false_eq_true, not_true_eq_false, and_true, mm_sh, hm, mjs_up_at, mjs_up_c, mjs_up_f, nI_1]
          exact mj_nv (f_142k (i := j) (k := k + 1) hM' hb c1 hq)
    · have hib' : i = bo := by omega
      have hkk : k = kt := by rw [hki, hkt, hib']
      subst hkk
      refine ⟨fun _ => mj_blk rfl ?_, fun q => absurd (nI_le (a := bo) (b := i) (by omega) (by omega)) q⟩
      simp +decide only [mjs_0, mjs_1, mjs_2, mjs_3, mjs_ble, true_and, Bool.false_eq_true, if_false, if_true, Nat.reduceAdd, Nat.reduceSub, Nat.reduceLeDiff, false_implies, true_implies, not_false_eq_true, not_true_eq_false, and_true]
      refine hqA A fi fb P N L I hv h ge_rf hA (by omega) hgA (fun b hb => rm_tr (hM b hb) ?_)
      intro H Lg d nc ns J Q hJ hA hq
      have j48 : J 48 b = nI k := (congrFun ((rr_d hJ).2.2.2.2.2.2.2.2.2 48 (by omega)) b).trans hA.1.2.2.2.2
      unfold k_75
      refine mj_blk rfl ?_
      simp +decide only [mjs_0, mjs_1, mjs_2, mjs_3, mjs_ble, true_and, Bool.false_eq_true, if_false, if_true, Nat.reduceAdd, Nat.reduceSub, Nat.reduceLeDiff, false_implies, true_implies, not_false_eq_true, not_true_eq_false, and_true, mm_sh, hm, mjs_up_at, mjs_up_c, mjs_up_f, eb b hb, j48]
      exact ⟨nI_in (by omega) (by decide), fun _ => mj_nv (hq H J hx_rf hJ hA), fun q => absurd (nI_le (a := k) (b := k) (Nat.le_refl _) (by omega)) q⟩
/-- collect, and the first half of call: a macro that is not the empty one -/
theorem p_10 (hR : mj_Rt mp_R Rf) (hM' : mj_Rt mm_R Rf) (hr' : nc + 1 ≤ X.2.2.1 ∧ ns + 6 ≤ X.2.2.2) (ha : a < M.2.2.2.2.1) (hv : gv (K, P, E, N, S, M, C, O, L)) (h : RC fb vb (K, P, E, N, S, M, C, O, L) I) (hp : P.length ≤ 10000)
    (hQ1 : ∀ A' fi' fb' P' N' L' I', gv (K, P', E, N', S, M, C, O, L') → RC fb' vb (K, P', E, N', S, M, C, O, L') I' → ge P N L P' N' L' → caA (np M.1 (M.2.1 a) (M.2.2.1 a - M.2.1 a)) A' fi' fb' → fi' ≤ 14100 → gA N'.2.2 (np M.1 (M.2.1 a) (M.2.2.1 a - M.2.1 a)) A' → (∀ b, b < 30001 → RM X Rf mb_142 7 0 (k_0 b) [] (K, P, E, N, S, M, C, O, L) (mcB (M.2.1 a) (M.2.2.1 a) (M.2.1 (a + 1)) (np M.1 (M.2.1 a) (M.2.2.1 a - M.2.1 a)) b) 164 (k_0 b) [] (K, P', E, N', S, M, C, O, L') (mcA (M.2.1 a) (M.2.2.1 a) (M.2.1 (a + 1)) (np M.1 (M.2.1 a) (M.2.2.1 a - M.2.1 a)) b (np M.1 (M.2.1 a) (M.2.2.1 a - M.2.1 a)) A')) → Q (.inl none) (sh59, I', Lg, Rf, nc, ns))
    (hQ3 : ∀ g' I', RCf fb vb g' I' → (∀ b, b < 30001 → RMf X Rf mb_142 7 0 (k_0 b) [] (K, P, E, N, S, M, C, O, L) (mcB (M.2.1 a) (M.2.2.1 a) (M.2.1 (a + 1)) (np M.1 (M.2.1 a) (M.2.2.1 a - M.2.1 a)) b) none g') → Q (.inr 500) (sh59, I', Lg, Rf, nc + 1, ns + 6)) :
    mj_call X mj_P (mj_bi X) (d + 4) 10 [.ref 30, .int (nI a)] (sh59, I, Lg, Rf, nc, ns) Q := by
  have hr := mc_rf hR
  have hm := mm_rf hM'
  have eb : ∀ b, b < 30001 → (nI b).toNatClampNeg = b := fun b hb => nI_clamp (by omega)
  have gM := (gv_d hv).2.2.2.2.1
  obtain ⟨m1, m2, m3, m4, m5, m6, m7⟩ := gM.2.1 a ha
  have hu2 : M.2.2.2.1 ≤ 10000 := gM.2.2.1.2.1
  have hmade := gvM_made gM
  have htl := tl_le (gv_d hv).2.2.2.2.2.2.2
  have h1 := rc_30 (q := 3) (v := 0) h
  have hC := (rc_d h1).2.2.2.2.2.1
  have c24 : mj_up I 30 3 0 24 a = nI (M.2.2.1 a) := hC.2.2.2.2 a (by omega)
  have c23 : mj_up I 30 3 0 23 a = nI (M.2.1 a) := hC.2.2.2.1 a (by omega)
  refine mj_enter (z := (6, [], mb_10)) (by decide) rfl rfl ?_
  refine mj_blk rfl ?_
  simp +decide only [mjs_0, mjs_1, mjs_2, mjs_3, mjs_ble, true_and, Bool.false_eq_true, if_false, if_true, Nat.reduceAdd, Nat.reduceSub, Nat.reduceLeDiff, false_implies, true_implies, not_false_eq_true, not_true_eq_false, and_true, mc_sh, hr, mjs_up_at, mjs_up_c, mjs_up_f]
  refine c_48 hR (by omega) ?_
  rw [c24]
  simp +decide only [mjs_0, mjs_1, mjs_2, mjs_3, mjs_ble, true_and, Bool.false_eq_true, if_false, if_true, Nat.reduceAdd, Nat.reduceSub, Nat.reduceLeDiff, false_implies, true_implies, not_false_eq_true, not_true_eq_false, and_true, mc_sh, hr, mjs_up_at, mjs_up_c, mjs_up_f]
  refine c_47 hR (by omega) ?_
  rw [c23]
  simp +decide only [mjs_0, mjs_1, mjs_2, mjs_3, mjs_ble, true_and, Bool.false_eq_true, if_false, if_true, Nat.reduceAdd, Nat.reduceSub, Nat.reduceLeDiff, false_implies, true_implies, not_false_eq_true, not_true_eq_false, and_true, mc_sh, hr, mjs_up_at, mjs_up_c, mjs_up_f]
  refine mj_nv (p_10s (d := d) (s := M.2.1 a) (bo := M.2.2.1 a) (e := M.2.1 (a + 1)) (k := np M.1 (M.2.1 a) (M.2.2.1 a - M.2.1 a)) (fb := mj_up fb 30 3 0) (vb := vb) (g0 := (K, P, E, N, S, M, C, O, L)) (A0 := mcB (M.2.1 a) (M.2.2.1 a) (M.2.1 (a + 1)) (np M.1 (M.2.1 a) (M.2.2.1 a - M.2.1 a))) hR hM' hr' (by omega) (fun b H hH => hH) (M.2.2.1 a - M.2.1 a) (M.2.1 a) P N L _ (by omega) (Nat.le_refl _) hp (fun q q1 q2 => absurd q2 (by omega)) hv h1 ?_ (fun i P' N' L' I' b1 b2 b3 b4 b5 b6 b7 b8 => ?_) hQ3)
  · intro b hb H Lg d nc ns J Q hJ hA hq
    have j49 : J 49 b = nI (M.2.1 a) := (congrFun ((rr_d hJ).2.2.2.2.2.2.2.2.2 49 (by omega)) b).trans hA.2.1
    unfold k_0
    refine mj_blk rfl ?_
    simp +decide only [mjs_0, mjs_1, mjs_2, mjs_3, mjs_ble, true_and, Bool.false_eq_true, if_false, if_true, Nat.reduceAdd, Nat.reduceSub, Nat.reduceLeDiff, false_implies, true_implies, not_false_eq_true, not_true_eq_false, and_true, mm_sh, hm, mjs_up_at, mjs_up_c, mjs_up_f, eb b hb, j49]
    exact ⟨nI_in (by omega) (by decide), mj_nv (hq H J hx_rf hJ hA)⟩
  · have hn0 : np M.1 (M.2.1 a) (i - M.2.1 a) = 0 := by
      have := np_no (pool := M.1) (a := M.2.1 a) (n := 0) (m := i - M.2.1 a) (fun q q1 q2 => b6 _ (by omega) (by omega))
      rw [Nat.zero_add] at this
      exact this
    refine p_10l (d := d) (s := M.2.1 a) (bo := M.2.2.1 a) (e := M.2.1 (a + 1)) (vb := vb) (g0 := (K, P, E, N, S, M, C, O, L)) (A0 := mcB (M.2.1 a) (M.2.2.1 a) (M.2.1 (a + 1)) (np M.1 (M.2.1 a) (M.2.2.1 a - M.2.1 a))) hR hM' hr' (by omega) rfl m5 m4 m7 (M.2.2.1 a - i) i 0 0 (fun _ => (fun _ => 0, 0)) (mj_up fb 30 3 0) P' N' L' I' (Nat.le_refl _) b4 b5 b7 hn0.symm ⟨rfl, fun k hk => absurd hk (Nat.not_lt_zero _)⟩ (by have := b3.2; omega) (fun q hq => absurd hq (Nat.not_lt_zero _)) (by have := b3.2.2.1; omega) b1 b2 (fun b hb => rm_tr (b8 b hb) ?_) (fun A' fi' fb' P'' N'' L'' I'' d1 d2 d3 => hQ1 A' fi' fb' P'' N'' L'' I'' d1 d2 (ge_tr b3 d3)) hQ3
    intro H Lg d nc ns J Q hJ hA hq
    exact hq H J hx_rf hJ ⟨hA, fun k hk => absurd hk (Nat.not_lt_zero _)⟩
end MJPM
