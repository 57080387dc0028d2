/-! ALL ARGUMENTS OF A MACRO, in both -/
def mqH (M : sgM) (a b : Nat) (H : Nat → Nat → Int32) : Prop := mq M (H 48) (H 49) (H 50) (H 51) a b
theorem mqH_hx {M : sgM} {a b : Nat} {H H' : Nat → Nat → Int32} (h : hx H H') (hm : mqH M a b H) : mqH M a b H' := by
  unfold mqH
  rw [h 48 (by omega), h 49 (by omega), h 50 (by omega), h 51 (by omega)]
  exact hm
theorem np_s {pool : Nat → Nat} {a n : Nat} : np pool a (n + 1) = np pool a n + (if 2097152 ≤ pool (a + n) then 1 else 0) := rfl
theorem np_le {pool : Nat → Nat} {a : Nat} : ∀ {m n : Nat}, np pool a n ≤ np pool a (n + m)
  | 0, n => Nat.le_refl _
  | m + 1, n => by
    have := np_le (pool := pool) (a := a) (m := m) (n := n)
    rw [← Nat.add_assoc, np_s]
    omega
theorem np_no {pool : Nat → Nat} {a : Nat} : ∀ {m n : Nat}, (∀ i, n ≤ i → i < n + m → pool (a + i) < 2097152) → np pool a (n + m) = np pool a n
  | 0, n, _ => rfl
  | m + 1, n, h => by
    rw [← Nat.add_assoc, np_s, if_neg (by have := h (n + m) (by omega) (by omega); omega), np_no (m := m) (fun i h1 h2 => h i h1 (by omega)), Nat.add_zero]
/-- places of parameters among tokens -/
theorem pv_pl {k t : Nat} (hk : k ≤ 1036) (h : pv k t) : (t / 2097152 % 2 = 1 ↔ 2097152 ≤ t) ∧ (t < 2097152 → tb k t) := by
  have h2 := h
  unfold pv at h
  refine ⟨?_, fun ht => ?_⟩
  · unfold tb at h
    omega
  · rcases h with h | h
    · exact h
    · omega
theorem pv_rt {k t : Nat} (hk : k ≤ 1036) (h3 : 36 ≤ k) (h : pv k t) : (262144 ≤ rt t ↔ 2097152 ≤ t) ∧ (2097152 ≤ t → rt t = 262144 + (t - 2097152)) ∧ rt t < 2 ^ 31 := by
  rcases h with h | h
  · have l := tb_lt hk h
    have e := rt_tb hk h
    have r := (rb_lt hk h3 h).1
    rw [e]
    omega
  · have e : rt t = 262144 + (t - 2097152) := by
      unfold rt rb
      rw [if_neg (by omega), if_neg (by omega), if_neg (by omega), if_pos (by omega)]
    rw [e]
    omega
section MJCO
variable {X : mj_X} {d nc ns : Nat} {Q : mj_Q} {I I' J J' H : Nat → Nat → Int32} {Lg : Nat → Nat → Int64} {Rf : Nat → Nat → Option Nat} {fb : Nat → Nat → Int32} {vb : Nat → Int32} {K : Nat × Nat × Nat} {P : List Nat} {E : sgE} {N : sgN} {S : sgS} {M : sgM} {C : sgC} {O : sgO} {L L' : sgL} {t n bg fi a b s bo e : Nat} {A : Nat → (Nat → Nat) × Nat} {f : Nat → Nat} {len many first dp : Nat} {g0 : sg} {A0 : (Nat → Nat → Int32) → Prop}
def k_0 (b : Nat) : mj_LV := [some (.ref 36), some (.int (nI b)), none, none, none, none]
def k_7 (b i : Nat) : mj_LV := [some (.ref 36), some (.int (nI b)), some (.int (nI i)), none, none, none]
def k_75 (b i k : Nat) : mj_LV := [some (.ref 36), some (.int (nI b)), some (.int (nI i)), some (.int (nI k)), none, none]
/-- the reference's rows of macro b: where it begins, its body, its end -/
def mcB (s bo e k b : Nat) (H : Nat → Nat → Int32) : Prop := b < 30001 ∧ H 49 b = nI s ∧ H 50 b = nI bo ∧ H 51 b = nI e ∧ H 48 b = nI k
theorem mcB_hx {k : Nat} {H' : Nat → Nat → Int32} (h : hx H H') (hm : mcB s bo e k b H) : mcB s bo e k b H' := by
  unfold mcB
  rw [h 48 (by omega), h 49 (by omega), h 50 (by omega), h 51 (by omega)]
  exact hm
/-- behind a fault call ends -/
theorem f_142 (hM' : mj_Rt mm_R Rf) {g' : sg} (hb : b < 30001) (hJ : RD H g' J) (hq : ∀ J', RD H g' J' → Q (.inl none) (sh59, J', Lg, Rf, nc, ns)) : mj_rn X (mj_hd []) (mj_call X mj_P (mj_bi X) (d + 7)) mb_142 164 (k_0 b) [] (sh59, J, Lg, Rf, nc, ns) Q := by
  have hm := mm_rf hM'
  have eb : (nI b).toNatClampNeg = b := nI_clamp (by omega)
  have z282 : ∀ lv : mj_LV, mj_rn X (mj_hd []) (mj_call X mj_P (mj_bi X) (d + 7)) mb_142 282 [some (.ref 36), some (.int (nI b)), none, none, none, none] [] (sh59, J, Lg, Rf, nc, ns) Q := by
    intro _
    refine mj_blk rfl ?_
    simp +decide only [mjs_0, mjs_1, mjs_2, mjs_3, mjs_ble, true_and, Bool.false_eq_true, if_false, if_true, Nat.reduceAdd, Nat.reduceSub, Nat.reduceLeDiff, false_implies, true_implies, not_false_eq_true, not_true_eq_false, and_true]
    exact hq J hJ
  unfold k_0
  refine mj_blk rfl ?_
  simp +decide only [mjs_0, mjs_1, mjs_2, mjs_3, mjs_ble, true_and, Bool.false_eq_true, if_false, if_true, Nat.reduceAdd, Nat.reduceSub, Nat.reduceLeDiff, false_implies, true_implies, not_false_eq_true, not_true_eq_false, and_true, mm_sh, hm, mjs_up_at, mjs_up_c, mjs_up_f, eb]
  refine ⟨nI_in (by omega) (by decide), mj_blk rfl ?_⟩
  simp +decide only [mjs_0, mjs_1, mjs_2, mjs_3, mjs_ble, true_and, Bool.false_eq_true, if_false, if_true, Nat.reduceAdd, Nat.reduceSub, Nat.reduceLeDiff, false_implies, true_implies, not_false_eq_true, not_true_eq_false, and_true, mm_sh, hm, mjs_up_at, mjs_up_c, mjs_up_f, eb]
  refine ⟨nI_in (by omega) (by decide), fun _ => mj_nv (z282 []), fun _ => mj_blk rfl ?_⟩
  simp +decide only [mjs_0, mjs_1, mjs_2, mjs_3, mjs_ble, true_and, Bool.false_eq_true, if_false, if_true, Nat.reduceAdd, Nat.reduceSub, Nat.reduceLeDiff, false_implies, true_implies, not_false_eq_true, not_true_eq_false, and_true, mm_sh, hm, mjs_up_at, mjs_up_c, mjs_up_f]
  exact ⟨fun _ => mj_nv (z282 []), fun q => absurd (rd_ne hJ) q⟩
theorem f_142k (hM' : mj_Rt mm_R Rf) {g' : sg} {i k : Nat} (hb : b < 30001) (hJ : RD H g' J) (hq : ∀ J', RD H g' J' → Q (.inl none) (sh59, J', Lg, Rf, nc, ns)) : mj_rn X (mj_hd []) (mj_call X mj_P (mj_bi X) (d + 7)) mb_142 75 (k_75 b i k) [] (sh59, J, Lg, Rf, nc, ns) Q := by
  have hm := mm_rf hM'
  have eb : (nI b).toNatClampNeg = b := nI_clamp (by omega)
  unfold k_75
  refine mj_blk rfl ?_
  simp +decide only [mjs_0, mjs_1, mjs_2, mjs_3, mjs_ble, true_and, Bool.false_eq_true, if_false, if_true, Nat.reduceAdd, Nat.reduceSub, Nat.reduceLeDiff, false_implies, true_implies, not_false_eq_true, not_true_eq_false, and_true, mm_sh, hm, mjs_up_at, mjs_up_c, mjs_up_f, eb]
  refine ⟨nI_in (by omega) (by decide), fun _ => mj_nv (f_142 hM' hb hJ hq), fun _ => mj_blk rfl ?_⟩
  simp +decide only [mjs_0, mjs_1, mjs_2, mjs_3, mjs_ble, true_and, Bool.false_eq_true, if_false, if_true, Nat.reduceAdd, Nat.reduceSub, Nat.reduceLeDiff, false_implies, true_implies, not_false_eq_true, not_true_eq_false, and_true, mm_sh, hm, mjs_up_at, mjs_up_c, mjs_up_f]
  exact ⟨fun _ => mj_nv (f_142 hM' hb hJ hq), fun q => absurd (rd_ne hJ) q⟩
theorem f_142i (hM' : mj_Rt mm_R Rf) {g' : sg} {i : Nat} (hb : b < 30001) (hJ : RD H g' J) (hq : ∀ J', RD H g' J' → Q (.inl none) (sh59, J', Lg, Rf, nc, ns)) : mj_rn X (mj_hd []) (mj_call X mj_P (mj_bi X) (d + 7)) mb_142 7 (k_7 b i) [] (sh59, J, Lg, Rf, nc, ns) Q := by
  have hm := mm_rf hM'
  unfold k_7
  refine mj_blk rfl ?_
  simp +decide only [mjs_0, mjs_1, mjs_2, mjs_3, mjs_ble, true_and, Bool.false_eq_true, if_false, if_true, Nat.reduceAdd, Nat.reduceSub, Nat.reduceLeDiff, false_implies, true_implies, not_false_eq_true, not_true_eq_false, and_true, mm_sh, hm, mjs_up_at, mjs_up_c, mjs_up_f]
  refine ⟨fun _ => mj_blk rfl ?_, fun q => absurd (rd_ne hJ) q⟩
  simp +decide only [mjs_0, mjs_1, mjs_2, mjs_3, mjs_ble, true_and, Bool.false_eq_true, if_false, if_true, Nat.reduceAdd, Nat.reduceSub, Nat.reduceLeDiff, false_implies, true_implies, not_false_eq_true, not_true_eq_false, and_true, mm_sh, hm, mjs_up_at, mjs_up_c, mjs_up_f]
  exact mj_nv (f_142k (i := i) (k := 0) hM' hb hJ hq)
/-- the delimiters before the first parameter -/
theorem p_10s (hR : mj_Rt mp_R Rf) (hM' : mj_Rt mm_R Rf) (hr' : nc + 1 ≤ X.2.2.1 ∧ ns + 6 ≤ X.2.2.2) (hbo : bo ≤ M.2.2.2.1) {k : Nat} {A0 : Nat → (Nat → Nat → Int32) → Prop} (hA0 : ∀ b H, A0 b H → mcB s bo e k b H) : ∀ (m i : Nat) (P : List Nat) (N : sgN) (L : sgL) (I : Nat → Nat → Int32), i + m = bo → s ≤ i → P.length ≤ 10000 → (∀ q, s ≤ q → q < i → M.1 q < 2097152) → gv (K, P, E, N, S, M, C, O, L) → RC fb vb (K, P, E, N, S, M, C, O, L) I → (∀ b, b < 30001 → RM X Rf mb_142 7 0 (k_0 b) [] g0 (A0 b) 7 (k_7 b i) [] (K, P, E, N, S, M, C, O, L) (A0 b)) →
    (∀ i P' N' L' I', gv (K, P', E, N', S, M, C, O, L') → RC fb vb (K, P', E, N', S, M, C, O, L') I' → ge P N L P' N' L' → s ≤ i → i ≤ bo → (∀ q, s ≤ q → q < i → M.1 q < 2097152) → (i < bo → 2097152 ≤ M.1 i) → (∀ b, b < 30001 → RM X Rf mb_142 7 0 (k_0 b) [] g0 (A0 b) 75 (k_75 b i 0) [] (K, P', E, N', S, M, C, O, L') (A0 b)) → mj_rn X (mj_hd []) (mj_call X mj_P (mj_bi X) (d + 3)) mb_10 81 [some (.ref 30), none, some (.int (nI bo)), some (.int (nI i)), none, none] [] (sh59, I', Lg, Rf, nc, ns) Q) →
    (∀ g' I', RCf fb vb g' I' → (∀ b, b < 30001 → RMf X Rf mb_142 7 0 (k_0 b) [] g0 (A0 b) none g') → Q (.inr 500) (sh59, I', Lg, Rf, nc + 1, ns + 6)) →
    mj_rn X (mj_hd []) (mj_call X mj_P (mj_bi X) (d + 3)) mb_10 23 [some (.ref 30), none, some (.int (nI bo)), some (.int (nI i)), none, none] [] (sh59, I, Lg, Rf, nc, ns) Q := by
  have hr := mc_rf hR
  have hm := mm_rf hM'
  intro m
  induction m with
  | zero =>
    intro i P N L I him hsi hp hpl hv h hM hqA hqF
    have hib : i = bo := by omega
    subst hib
    have hu2 : M.2.2.2.1 ≤ 10000 := (gv_d hv).2.2.2.2.1.2.2.1.2.1
    refine mj_blk rfl ?_
    simp +decide only [mjs_0, mjs_1, mjs_2, mjs_3, mjs_ble, true_and, Bool.false_eq_true, if_false, if_true, Nat.reduceAdd, Nat.reduceSub, Nat.reduceLeDiff, false_implies, true_implies, not_false_eq_true, not_true_eq_false, and_true]
    refine ⟨fun _ => mj_nv (hqA i P N L I hv h ge_rf hsi (Nat.le_refl _) hpl (fun hh => absurd hh (Nat.lt_irrefl _)) (fun b hb => rm_tr (hM b hb) ?_)), fun q => absurd (nI_le (a := i) (b := i) (Nat.le_refl _) (by omega)) q⟩
    intro H Lg d nc ns J Q hJ hA hq
    have mb := hA0 b H hA
    have eb : (nI b).toNatClampNeg = b := nI_clamp (by have := mb.1; omega)
    have j50 : J 50 b = nI i := (congrFun ((rr_d hJ).2.2.2.2.2.2.2.2.2 50 (by omega)) b).trans mb.2.2.1
    unfold k_7
    refine mj_blk rfl ?_
    simp +decide only [mjs_0, mjs_1, mjs_2, mjs_3, mjs_ble, true_and, Bool.false_eq_true, if_false, if_true, Nat.reduceAdd, Nat.reduceSub, Nat.reduceLeDiff, false_implies, true_implies, not_false_eq_true, not_true_eq_false, and_true, mm_sh, hm, mjs_up_at, mjs_up_c, mjs_up_f, (rr_d hJ).1.2.2.2]
    refine mj_blk rfl ?_
    simp +decide only [mjs_0, mjs_1, mjs_2, mjs_3, mjs_ble, true_and, Bool.false_eq_true, if_false, if_true, Nat.reduceAdd, Nat.reduceSub, Nat.reduceLeDiff, false_implies, true_implies, not_false_eq_true, not_true_eq_false, and_true, mm_sh, hm, mjs_up_at, mjs_up_c, mjs_up_f, eb, j50]
    refine ⟨nI_in (by have := mb.1; omega) (by decide), fun _ => mj_blk rfl ?_, fun q => absurd (nI_le (a := i) (b := i) (Nat.le_refl _) (by omega)) q⟩
    simp +decide only [mjs_0, mjs_1, mjs_2, mjs_3, mjs_ble, true_and, Bool.false_eq_true, if_false, if_true, Nat.reduceAdd, Nat.reduceSub, Nat.reduceLeDiff, false_implies, true_implies, not_false_eq_true, not_true_eq_false, and_true, mm_sh, hm, mjs_up_at, mjs_up_c, mjs_up_f]
    exact mj_nv (hq H J hx_rf hJ hA)
  | succ m ih =>
    intro i P N L I him hsi hp hpl hv h hM hqA hqF
    have hu2 : M.2.2.2.1 ≤ 10000 := (gv_d hv).2.2.2.2.1.2.2.1.2.1
    have hk : N.2.2 ≤ 1036 := (gv_d hv).2.2.1.2.1
    have hk1 : 36 ≤ N.2.2 := (gv_d hv).2.2.1.1
    have hpi : pv N.2.2 (M.1 i) := (gv_d hv).2.2.2.2.1.2.2.2 i (by omega)
    have ppl := pv_pl hk hpi
    have prt := pv_rt hk hk1 hpi
    have plt := pv_lt hk hpi
    have ei : (nI i).toNatClampNeg = i := nI_clamp (by omega)
    have c22 : ∀ I', RC fb vb (K, P, E, N, S, M, C, O, L) I' → I' 22 i = nI (M.1 i) := fun I' hh => (rc_d hh).2.2.2.2.2.1.2.2.1 i (by omega)
    -- the reference to the test of the place
    have r24 : (∀ b, b < 30001 → RM X Rf mb_142 7 0 (k_0 b) [] g0 (A0 b) 24 (k_7 b i) [] (K, P, E, N, S, M, C, O, L) (A0 b)) := by
      refine fun b hb => rm_tr (hM b hb) ?_
      intro H Lg d nc ns J Q hJ hA hq
      have mb := hA0 b H hA
      have eb : (nI b).toNatClampNeg = b := nI_clamp (by have := mb.1; omega)
      have j50 : J 50 b = nI bo := (congrFun ((rr_d hJ).2.2.2.2.2.2.2.2.2 50 (by omega)) b).trans mb.2.2.1
      unfold k_7 at hq ⊢
      refine mj_blk rfl ?_
      simp +decide only [mjs_0, mjs_1, mjs_2, mjs_3, mjs_ble, true_and, Bool.false_eq_true, if_false, if_true, Nat.reduceAdd, Nat.reduceSub, Nat.reduceLeDiff, false_implies, true_implies, not_false_eq_true, not_true_eq_false, and_true, mm_sh, hm, mjs_up_at, mjs_up_c, mjs_up_f, (rr_d hJ).1.2.2.2]
      refine mj_blk rfl ?_
      simp +decide only [mjs_0, mjs_1, mjs_2, mjs_3, mjs_ble, true_and, Bool.false_eq_true, if_false, if_true, Nat.reduceAdd, Nat.reduceSub, Nat.reduceLeDiff, false_implies, true_implies, not_false_eq_true, not_true_eq_false, and_true, mm_sh, hm, mjs_up_at, mjs_up_c, mjs_up_f, eb, j50]
      exact ⟨nI_in (by have := mb.1; omega) (by decide), fun q => absurd q (nI_ge (a := i) (b := bo) (by omega) (by omega)), fun _ => mj_nv (hq H J hx_rf hJ hA)⟩
    refine mj_blk rfl ?_
    simp +decide only [mjs_0, mjs_1, mjs_2, mjs_3, mjs_ble, true_and, Bool.false_eq_true, if_false, if_true, Nat.reduceAdd, Nat.reduceSub, Nat.reduceLeDiff, false_implies, true_implies, not_false_eq_true, not_true_eq_false, and_true]
    refine ⟨fun q => absurd q (nI_ge (a := i) (b := bo) (by omega) (by omega)), fun _ => mj_blk rfl ?_⟩
    simp +decide only [mjs_0, mjs_1, mjs_2, mjs_3, mjs_ble, true_and, Bool.false_eq_true, if_false, if_true, Nat.reduceAdd, Nat.reduceSub, Nat.reduceLeDiff, false_implies, true_implies, not_false_eq_true, not_true_eq_false, and_true, mc_sh, hr, mjs_up_at, mjs_up_c, mjs_up_f, ei, c22 I h]
    refine ⟨nI_in (by omega) (by decide), ?_⟩
    refine c_185 (by omega) ?_
    by_cases ep : 2097152 ≤ M.1 i
    · rw [if_pos (ppl.1.mpr ep)]
      simp +decide only [mjs_0, mjs_1, mjs_2, mjs_3, mjs_ble, true_and, Bool.false_eq_true, if_false, if_true, Nat.reduceAdd, Nat.reduceSub, Nat.reduceLeDiff, false_implies, true_implies, not_false_eq_true, not_true_eq_false, and_true]
      refine mj_nv (hqA i P N L I hv h ge_rf hsi (by omega) hpl (fun _ => ep) (fun b hb => rm_tr (r24 b hb) ?_))
      intro H Lg d nc ns J Q hJ hA hq
      have j52 : J 52 i = nI (rt (M.1 i)) := (rr_d hJ).2.2.2.2.2.1.2.2 i (by omega)
      unfold k_7
      refine mj_blk rfl ?_
      simp +decide only [mjs_0, mjs_1, mjs_2, mjs_3, mjs_ble, true_and, Bool.false_eq_true, if_false, if_true, Nat.reduceAdd, Nat.reduceSub, Nat.reduceLeDiff, false_implies, true_implies, not_false_eq_true, not_true_eq_false, and_true, mm_sh, hm, mjs_up_at, mjs_up_c, mjs_up_f, ei, j52]
      refine ⟨nI_in (by omega) (by decide), fun _ => mj_blk rfl ?_, fun q => absurd (nI_le (a := 262144) (b := rt (M.1 i)) (prt.1.mpr ep) prt.2.2) q⟩
      simp +decide only [mjs_0, mjs_1, mjs_2, mjs_3, mjs_ble, true_and, Bool.false_eq_true, if_false, if_true, Nat.reduceAdd, Nat.reduceSub, Nat.reduceLeDiff, false_implies, true_implies, not_false_eq_true, not_true_eq_false, and_true, mm_sh, hm, mjs_up_at, mjs_up_c, mjs_up_f]
      exact mj_nv (hq H J hx_rf hJ hA)
    · rw [if_neg (fun hh => ep (ppl.1.mp hh))]
      have htb := ppl.2 (by omega)
      have r36 : (∀ b, b < 30001 → RM X Rf mb_142 7 0 (k_0 b) [] g0 (A0 b) 36 (k_7 b i) [] (K, P, E, N, S, M, C, O, L) (A0 b)) := by
        refine fun b hb => rm_tr (r24 b hb) ?_
        intro H Lg d nc ns J Q hJ hA hq
        have j52 : J 52 i = nI (rt (M.1 i)) := (rr_d hJ).2.2.2.2.2.1.2.2 i (by omega)
        unfold k_7 at hq ⊢
        refine mj_blk rfl ?_
        simp +decide only [mjs_0, mjs_1, mjs_2, mjs_3, mjs_ble, true_and, Bool.false_eq_true, if_false, if_true, Nat.reduceAdd, Nat.reduceSub, Nat.reduceLeDiff, false_implies, true_implies, not_false_eq_true, not_true_eq_false, and_true, mm_sh, hm, mjs_up_at, mjs_up_c, mjs_up_f, ei, j52]
        exact ⟨nI_in (by omega) (by decide), fun q => absurd ((nI_leI (a := 262144) (by decide) prt.2.2).mp q) (fun hh => ep (prt.1.mp hh)), fun _ => mj_nv (hq H J hx_rf hJ hA)⟩
      simp +decide only [mjs_0, mjs_1, mjs_2, mjs_3, mjs_ble, true_and, Bool.false_eq_true, if_false, if_true, Nat.reduceAdd, Nat.reduceSub, Nat.reduceLeDiff, false_implies, true_implies, not_false_eq_true, not_true_eq_false, and_true]
      refine mj_blk rfl ?_
      simp +decide only [mjs_0, mjs_1, mjs_2, mjs_3, mjs_ble, true_and, Bool.false_eq_true, if_false, if_true, Nat.reduceAdd, Nat.reduceSub, Nat.reduceLeDiff, false_implies, true_implies, not_false_eq_true, not_true_eq_false, and_true, mc_sh, hr, mjs_up_at, mjs_up_c, mjs_up_f]
      refine p_85n hR hM' hv h hp hr' (fun t P1 N1 L1 I1 a1 a2 a3 a4 a5 a6 a7 a8 => ?_) (fun g' I' a1 a2 => ?_)
      · have hk' : N1.2.2 ≤ 1036 := (gv_d a1).2.2.1.2.1
        have hk1' : 36 ≤ N1.2.2 := (gv_d a1).2.2.1.1
        have htl := tv_lt hk' a7
        have htb1 : tb N1.2.2 (M.1 i) := tb_mono a3.1 htb
        have c22' : I1 22 i = nI (M.1 i) := (rc_d a2).2.2.2.2.2.1.2.2.1 i (by omega)
        have hge : ge P N L P1 N1 L1 := ⟨a3, by omega, a5.2, a6⟩
        have hpl3 : pl t < 2 ^ 31 := by
          unfold pl
          split <;> omega
        simp +decide only [mjs_0, mjs_1, mjs_2, mjs_3, mjs_ble, true_and, Bool.false_eq_true, if_false, if_true, Nat.reduceAdd, Nat.reduceSub, Nat.reduceLeDiff, false_implies, true_implies, not_false_eq_true, not_true_eq_false, and_true]
        refine c_183 (by omega) ?_
        simp +decide only [mjs_0, mjs_1, mjs_2, mjs_3, mjs_ble, true_and, Bool.false_eq_true, if_false, if_true, Nat.reduceAdd, Nat.reduceSub, Nat.reduceLeDiff, false_implies, true_implies, not_false_eq_true, not_true_eq_false, and_true, mc_sh, hr, mjs_up_at, mjs_up_c, mjs_up_f, ei, c22']
        refine ⟨nI_in (by omega) (by decide), ?_⟩
        by_cases e : pl t = M.1 i
        · refine ⟨fun _ => mj_blk rfl ?_, fun q => absurd (congrArg nI e) q⟩
          simp +decide only [mjs_0, mjs_1, mjs_2, mjs_3, mjs_ble, true_and, Bool.false_eq_true, if_false, if_true, Nat.reduceAdd, Nat.reduceSub, Nat.reduceLeDiff, false_implies, true_implies, not_false_eq_true, not_true_eq_false, and_true, nI_1]
          refine mj_nv (ih (i + 1) P1 N1 L1 I1 (by omega) (by omega) (by omega) (fun q h1 h2 => ?_) a1 a2 (fun b hb => rm_tr (r36 b hb) ?_) (fun i P' N' L' I' b1 b2 b3 => hqA i P' N' L' I' b1 b2 (ge_tr hge b3)) hqF)
          · by_cases eq : q = i
            · rw [eq]
              omega
            · exact hpl q h1 (by omega)
          · intro H Lg d nc ns J Q hJ hA hq
            unfold k_7 at hq ⊢
            refine mj_blk rfl ?_
            simp +decide only [mjs_0, mjs_1, mjs_2, mjs_3, mjs_ble, true_and, Bool.false_eq_true, if_false, if_true, Nat.reduceAdd, Nat.reduceSub, Nat.reduceLeDiff, false_implies, true_implies, not_false_eq_true, not_true_eq_false, and_true, mm_sh, hm, mjs_up_at, mjs_up_c, mjs_up_f]
            refine a8 H Lg (d + 1) nc ns J _ hJ (fun J1 hJ1 => ?_)
            have j52 : J1 52 i = nI (rt (M.1 i)) := (rr_d hJ1).2.2.2.2.2.1.2.2 i (by omega)
            simp +decide only [mjs_0, mjs_1, mjs_2, mjs_3, mjs_ble, true_and, Bool.false_eq_true, if_false, if_true, Nat.reduceAdd, Nat.reduceSub, Nat.reduceLeDiff, false_implies, true_implies, not_false_eq_true, not_true_eq_false, and_true, mm_sh, hm, mjs_up_at, mjs_up_c, mjs_up_f, (rr_d hJ1).1.2.2.2]
            refine mj_blk rfl ?_
            simp +decide only [mjs_0, mjs_1, mjs_2, mjs_3, mjs_ble, true_and, Bool.false_eq_true, if_false, if_true, Nat.reduceAdd, Nat.reduceSub, Nat.reduceLeDiff, false_implies, true_implies, not_false_eq_true, not_true_eq_false, and_true, mm_sh, hm, mjs_up_at, mjs_up_c, mjs_up_f, ei, j52]
            refine ⟨nI_in (by omega) (by decide), ?_⟩
            refine rq_141 hk' hk1' a7 htb1 (fun _ => ?_) (fun e' => absurd e e')
            simp +decide only [mjs_0, mjs_1, mjs_2, mjs_3, mjs_ble, true_and, Bool.false_eq_true, if_false, if_true, Nat.reduceAdd, Nat.reduceSub, Nat.reduceLeDiff, false_implies, true_implies, not_false_eq_true, not_true_eq_false, and_true, mm_sh, hm, mjs_up_at, mjs_up_c, mjs_up_f]
            refine mj_blk rfl ?_
            simp +decide only [mjs_0, mjs_1, mjs_2, mjs_3, mjs_ble, true_and, Bool.false_eq_true, if_false, if_true, Nat.reduceAdd, Nat.reduceSub, Nat.reduceLeDiff, false_implies, true_implies, not_false_eq_true, not_true_eq_false, and_true, mm_sh, hm, mjs_up_at, mjs_up_c, mjs_up_f, nI_1]
            exact mj_nv (hq H J1 hx_rf hJ1 hA)
        · refine ⟨fun q => absurd ((nI_eq hpl3 (by omega)).mp q) e, fun _ => mj_blk rfl ?_⟩
          simp +decide only [mjs_0, mjs_1, mjs_2, mjs_3, mjs_ble, true_and, Bool.false_eq_true, if_false, if_true, Nat.reduceAdd, Nat.reduceSub, Nat.reduceLeDiff, false_implies, true_implies, not_false_eq_true, not_true_eq_false, and_true, mc_sh, hr, mjs_up_at, mjs_up_c, mjs_up_f]
          refine c_80 s59_1 hr' ?_
          simp +decide only [mjs_0, mjs_1, mjs_2, mjs_3, mjs_ble, true_and, Bool.false_eq_true, if_false, if_true, Nat.reduceAdd, Nat.reduceSub, Nat.reduceLeDiff, false_implies, true_implies, not_false_eq_true, not_true_eq_false, and_true]
          refine hqF _ _ (rc_f a1 a2) (fun b hb => rm_f (r36 b hb) ?_)
          intro H Lg d nc ns J Q hJ hA hq
          unfold k_7
          refine mj_blk rfl ?_
          simp +decide only [mjs_0, mjs_1, mjs_2, mjs_3, mjs_ble, true_and, Bool.false_eq_true, if_false, if_true, Nat.reduceAdd, Nat.reduceSub, Nat.reduceLeDiff, false_implies, true_implies, not_false_eq_true, not_true_eq_false, and_true, mm_sh, hm, mjs_up_at, mjs_up_c, mjs_up_f]
          refine a8 H Lg (d + 1) nc ns J _ hJ (fun J1 hJ1 => ?_)
          have j52 : J1 52 i = nI (rt (M.1 i)) := (rr_d hJ1).2.2.2.2.2.1.2.2 i (by omega)
          simp +decide only [mjs_0, mjs_1, mjs_2, mjs_3, mjs_ble, true_and, Bool.false_eq_true, if_false, if_true, Nat.reduceAdd, Nat.reduceSub, Nat.reduceLeDiff, false_implies, true_implies, not_false_eq_true, not_true_eq_false, and_true, mm_sh, hm, mjs_up_at, mjs_up_c, mjs_up_f, (rr_d hJ1).1.2.2.2]
          refine mj_blk rfl ?_
          simp +decide only [mjs_0, mjs_1, mjs_2, mjs_3, mjs_ble, true_and, Bool.false_eq_true, if_false, if_true, Nat.reduceAdd, Nat.reduceSub, Nat.reduceLeDiff, false_implies, true_implies, not_false_eq_true, not_true_eq_false, and_true, mm_sh, hm, mjs_up_at, mjs_up_c, mjs_up_f, ei, j52]
          refine ⟨nI_in (by omega) (by decide), ?_⟩
          refine rq_141 hk' hk1' a7 htb1 (fun e' => absurd e' e) (fun _ => ?_)
          simp +decide only [mjs_0, mjs_1, mjs_2, mjs_3, mjs_ble, true_and, Bool.false_eq_true, if_false, if_true, Nat.reduceAdd, Nat.reduceSub, Nat.reduceLeDiff, false_implies, true_implies, not_false_eq_true, not_true_eq_false, and_true, mm_sh, hm, mjs_up_at, mjs_up_c, mjs_up_f]
          refine mj_blk rfl ?_
          simp +decide only [mjs_0, mjs_1, mjs_2, mjs_3, mjs_ble, true_and, Bool.false_eq_true, if_false, if_true, Nat.reduceAdd, Nat.reduceSub, Nat.reduceLeDiff, false_implies, true_implies, not_false_eq_true, not_true_eq_false, and_true, mm_sh, hm, mjs_up_at, mjs_up_c, mjs_up_f]
          refine c_106 s59_36 ?_
          rw [if_pos (rr_d hJ1).1.2.2.2]
          simp +decide only [mjs_0, mjs_1, mjs_2, mjs_3, mjs_ble, true_and, Bool.false_eq_true, if_false, if_true, Nat.reduceAdd, Nat.reduceSub, Nat.reduceLeDiff, false_implies, true_implies, not_false_eq_true, not_true_eq_false, and_true, mm_sh, hm, mjs_up_at, mjs_up_c, mjs_up_f]
          refine mj_blk rfl ?_
          simp +decide only [mjs_0, mjs_1, mjs_2, mjs_3, mjs_ble, true_and, Bool.false_eq_true, if_false, if_true, Nat.reduceAdd, Nat.reduceSub, Nat.reduceLeDiff, false_implies, true_implies, not_false_eq_true, not_true_eq_false, and_true, mm_sh, hm, mjs_up_at, mjs_up_c, mjs_up_f, nI_1]
          exact mj_nv (f_142i (i := i + 1) hM' (hA0 b H hA).1 (rr_f (f := 4) (by decide) (by decide) hJ1) hq)
      · simp +decide only [mjs_0, mjs_1, mjs_2, mjs_3, mjs_ble, true_and, Bool.false_eq_true, if_false, if_true, Nat.reduceAdd, Nat.reduceSub, Nat.reduceLeDiff, false_implies, true_implies, not_false_eq_true, not_true_eq_false, and_true]
        refine hqF g' I' a1 (fun b hb => rm_f (r36 b hb) ?_)
        intro H Lg d nc ns J Q hJ hA hq
        unfold k_7
        refine mj_blk rfl ?_
        simp +decide only [mjs_0, mjs_1, mjs_2, mjs_3, mjs_ble, true_and, Bool.false_eq_true, if_false, if_true, Nat.reduceAdd, Nat.reduceSub, Nat.reduceLeDiff, false_implies, true_implies, not_false_eq_true, not_true_eq_false, and_true, mm_sh, hm, mjs_up_at, mjs_up_c, mjs_up_f]
        refine a2 H Lg (d + 1) nc ns J _ hJ (fun J1 hJ1 => ?_)
        simp +decide only [mjs_0, mjs_1, mjs_2, mjs_3, mjs_ble, true_and, Bool.false_eq_true, if_false, if_true, Nat.reduceAdd, Nat.reduceSub, Nat.reduceLeDiff, false_implies, true_implies, not_false_eq_true, not_true_eq_false, and_true, mm_sh, hm, mjs_up_at, mjs_up_c, mjs_up_f]
        refine ⟨fun _ => mj_blk rfl ?_, fun q => absurd (rd_ne hJ1) q⟩
        simp +decide only [mjs_0, mjs_1, mjs_2, mjs_3, mjs_ble, true_and, Bool.false_eq_true, if_false, if_true, Nat.reduceAdd, Nat.reduceSub, Nat.reduceLeDiff, false_implies, true_implies, not_false_eq_true, not_true_eq_false, and_true, mm_sh, hm, mjs_up_at, mjs_up_c, mjs_up_f, nI_1]
        exact mj_nv (f_142i (i := i + 1) hM' (hA0 b H hA).1 hJ1 hq)
/-- from a parameter to the next one, or to the body -/
theorem nx_pl (pool : Nat → Nat) (bo : Nat) : ∀ m i, i + m = bo → ∃ j, i ≤ j ∧ j ≤ bo ∧ (∀ q, i ≤ q → q < j → pool q < 2097152) ∧ (j < bo → 2097152 ≤ pool j)
  | 0, i, h => ⟨i, Nat.le_refl _, by omega, fun q h1 h2 => absurd h2 (by omega), fun hh => absurd hh (by omega)⟩
  | m + 1, i, h => by
    by_cases e : 2097152 ≤ pool i
    · exact ⟨i, Nat.le_refl _, by omega, fun q h1 h2 => absurd h2 (by omega), fun _ => e⟩
    · obtain ⟨j, h1, h2, h3, h4⟩ := nx_pl pool bo m (i + 1) (by omega)
      refine ⟨j, by omega, h2, fun q q1 q2 => ?_, h4⟩
      by_cases eq : q = i
      · rw [eq]
        omega
      · exact h3 q (by omega) q2
theorem c_10n (hR : mj_Rt mp_R Rf) (hv : gv (K, P, E, N, S, M, C, O, L)) (h : RC fb vb (K, P, E, N, S, M, C, O, L) I) (hbo : bo ≤ M.2.2.2.1) {j : Nat} {w4 : Option Value} (hj : j ≤ bo) (hpj : j < bo → 2097152 ≤ M.1 j) (hq : mj_rn X (mj_hd []) (mj_call X mj_P (mj_bi X) (d + 3)) mb_10 134 [some (.ref 30), none, some (.int (nI bo)), some (.int (nI j)), w4, some (.int (nI first))] [] (sh59, I, Lg, Rf, nc, ns) Q) : ∀ m i, i + m = j → (∀ q, i ≤ q → q < j → M.1 q < 2097152) → mj_rn X (mj_hd []) (mj_call X mj_P (mj_bi X) (d + 3)) mb_10 108 [some (.ref 30), none, some (.int (nI bo)), some (.int (nI i)), w4, some (.int (nI first))] [] (sh59, I, Lg, Rf, nc, ns) Q := by
  have hr := mc_rf hR
  have hu2 : M.2.2.2.1 ≤ 10000 := (gv_d hv).2.2.2.2.1.2.2.1.2.1
  have hk : N.2.2 ≤ 1036 := (gv_d hv).2.2.1.2.1
  intro m
  induction m with
  | zero =>
    intro i hi _
    have : i = j := by omega
    subst this
    refine mj_blk rfl ?_
    simp +decide only [mjs_0, mjs_1, mjs_2, mjs_3, mjs_ble, true_and, Bool.false_eq_true, if_false, if_true, Nat.reduceAdd, Nat.reduceSub, Nat.reduceLeDiff, false_implies, true_implies, not_false_eq_true, not_true_eq_false, and_true]
    by_cases e : i < bo
    · have hpi : pv N.2.2 (M.1 i) := (gv_d hv).2.2.2.2.1.2.2.2 i (by omega)
      have plt := pv_lt hk hpi
      have ei : (nI i).toNatClampNeg = i := nI_clamp (by omega)
      have c22 : I 22 i = nI (M.1 i) := (rc_d h).2.2.2.2.2.1.2.2.1 i (by omega)
      refine ⟨fun q => absurd q (nI_ge (a := i) (b := bo) (by omega) (by omega)), fun _ => mj_blk rfl ?_⟩
      simp +decide only [mjs_0, mjs_1, mjs_2, mjs_3, mjs_ble, true_and, Bool.false_eq_true, if_false, if_true, Nat.reduceAdd, Nat.reduceSub, Nat.reduceLeDiff, false_implies, true_implies, not_false_eq_true, not_true_eq_false, and_true, mc_sh, hr, mjs_up_at, mjs_up_c, mjs_up_f, ei, c22]
      refine ⟨nI_in (by omega) (by decide), ?_⟩
      refine c_185 (by omega) ?_
      rw [if_pos ((pv_pl hk hpi).1.mpr (hpj e))]
      simp +decide only [mjs_0, mjs_1, mjs_2, mjs_3, mjs_ble, true_and, Bool.false_eq_true, if_false, if_true, Nat.reduceAdd, Nat.reduceSub, Nat.reduceLeDiff, false_implies, true_implies, not_false_eq_true, not_true_eq_false, and_true]
      exact mj_nv hq
    · exact ⟨fun _ => mj_nv hq, fun q => absurd (nI_le (a := bo) (b := i) (by omega) (by omega)) q⟩
  | succ m ih =>
    intro i hi hh
    have hpi : pv N.2.2 (M.1 i) := (gv_d hv).2.2.2.2.1.2.2.2 i (by omega)
    have plt := pv_lt hk hpi
    have ei : (nI i).toNatClampNeg = i := nI_clamp (by omega)
    have c22 : I 22 i = nI (M.1 i) := (rc_d h).2.2.2.2.2.1.2.2.1 i (by omega)
    have hlt := hh i (Nat.le_refl _) (by omega)
    refine mj_blk rfl ?_
    simp +decide only [mjs_0, mjs_1, mjs_2, mjs_3, mjs_ble, true_and, Bool.false_eq_true, if_false, if_true, Nat.reduceAdd, Nat.reduceSub, Nat.reduceLeDiff, false_implies, true_implies, not_false_eq_true, not_true_eq_false, and_true]
    refine ⟨fun q => absurd q (nI_ge (a := i) (b := bo) (by omega) (by omega)), fun _ => mj_blk rfl ?_⟩
    simp +decide only [mjs_0, mjs_1, mjs_2, mjs_3, mjs_ble, true_and, Bool.false_eq_true, if_false, if_true, Nat.reduceAdd, Nat.reduceSub, Nat.reduceLeDiff, false_implies, true_implies, not_false_eq_true, not_true_eq_false, and_true, mc_sh, hr, mjs_up_at, mjs_up_c, mjs_up_f, ei, c22]
    refine ⟨nI_in (by omega) (by decide), ?_⟩
    refine c_185 (by omega) ?_
    rw [if_neg (fun hx => absurd ((pv_pl hk hpi).1.mp hx) (by omega))]
    simp +decide only [mjs_0, mjs_1, mjs_2, mjs_3, mjs_ble, true_and, Bool.false_eq_true, if_false, if_true, Nat.reduceAdd, Nat.reduceSub, Nat.reduceLeDiff, false_implies, true_implies, not_false_eq_true, not_true_eq_false, and_true]
    refine mj_blk rfl ?_
    simp +decide only [mjs_0, mjs_1, mjs_2, mjs_3, mjs_ble, true_and, Bool.false_eq_true, if_false, if_true, Nat.reduceAdd, Nat.reduceSub, Nat.reduceLeDiff, false_implies, true_implies, not_false_eq_true, not_true_eq_false, and_true, nI_1]
    exact mj_nv (ih (i + 1) (by omega) (fun q h1 h2 => hh q (by omega) h2))
theorem r_142n (hM' : mj_Rt mm_R Rf) (hv : gv (K, P, E, N, S, M, C, O, L)) (hJ : RR H (K, P, E, N, S, M, C, O, L) J) {k : Nat} (hmb : mcB s bo e k b H) (hbo : bo ≤ M.2.2.2.1) {j : Nat} {w3 : Option Value} (hj : j ≤ bo) (hpj : j < bo → 2097152 ≤ M.1 j) (hq : mj_rn X (mj_hd []) (mj_call X mj_P (mj_bi X) (d + 7)) mb_142 131 [some (.ref 36), some (.int (nI b)), none, w3, some (.int (nI first)), some (.int (nI j))] [] (sh59, J, Lg, Rf, nc, ns) Q) : ∀ m i, i + m = j → (∀ q, i ≤ q → q < j → M.1 q < 2097152) → mj_rn X (mj_hd []) (mj_call X mj_P (mj_bi X) (d + 7)) mb_142 101 [some (.ref 36), some (.int (nI b)), none, w3, some (.int (nI first)), some (.int (nI i))] [] (sh59, J, Lg, Rf, nc, ns) Q := by
  have hm := mm_rf hM'
  have hu2 : M.2.2.2.1 ≤ 10000 := (gv_d hv).2.2.2.2.1.2.2.1.2.1
  have hk : N.2.2 ≤ 1036 := (gv_d hv).2.2.1.2.1
  have hk1 : 36 ≤ N.2.2 := (gv_d hv).2.2.1.1
  have hb1 := hmb.1
  have eb : (nI b).toNatClampNeg = b := nI_clamp (by omega)
  have j50 : J 50 b = nI bo := (congrFun ((rr_d hJ).2.2.2.2.2.2.2.2.2 50 (by omega)) b).trans hmb.2.2.1
  intro m
  induction m with
  | zero =>
    intro i hi _
    have : i = j := by omega
    subst this
    refine mj_blk rfl ?_
    simp +decide only [mjs_0, mjs_1, mjs_2, mjs_3, mjs_ble, true_and, Bool.false_eq_true, if_false, if_true, Nat.reduceAdd, Nat.reduceSub, Nat.reduceLeDiff, false_implies, true_implies, not_false_eq_true, not_true_eq_false, and_true, mm_sh, hm, mjs_up_at, mjs_up_c, mjs_up_f, eb, j50]
    refine ⟨nI_in (by omega) (by decide), ?_⟩
    by_cases e : i < bo
    · have hpi : pv N.2.2 (M.1 i) := (gv_d hv).2.2.2.2.1.2.2.2 i (by omega)
      have prt := pv_rt hk hk1 hpi
      have ei : (nI i).toNatClampNeg = i := nI_clamp (by omega)
      have j52 : J 52 i = nI (rt (M.1 i)) := (rr_d hJ).2.2.2.2.2.1.2.2 i (by omega)
      refine ⟨fun q => absurd q (nI_ge (a := i) (b := bo) (by omega) (by omega)), fun _ => mj_blk rfl ?_⟩
      simp +decide only [mjs_0, mjs_1, mjs_2, mjs_3, mjs_ble, true_and, Bool.false_eq_true, if_false, if_true, Nat.reduceAdd, Nat.reduceSub, Nat.reduceLeDiff, false_implies, true_implies, not_false_eq_true, not_true_eq_false, and_true, mm_sh, hm, mjs_up_at, mjs_up_c, mjs_up_f, ei, j52]
      exact ⟨nI_in (by omega) (by decide), fun _ => mj_nv hq, fun q => absurd (nI_le (a := 262144) (b := rt (M.1 i)) (prt.1.mpr (hpj e)) prt.2.2) q⟩
    · exact ⟨fun _ => mj_nv hq, fun q => absurd (nI_le (a := bo) (b := i) (by omega) (by omega)) q⟩
  | succ m ih =>
    intro i hi hh
    have hpi : pv N.2.2 (M.1 i) := (gv_d hv).2.2.2.2.1.2.2.2 i (by omega)
    have prt := pv_rt hk hk1 hpi
    have ei : (nI i).toNatClampNeg = i := nI_clamp (by omega)
    have j52 : J 52 i = nI (rt (M.1 i)) := (rr_d hJ).2.2.2.2.2.1.2.2 i (by omega)
    have hlt := hh i (Nat.le_refl _) (by omega)
    refine mj_blk rfl ?_
    simp +decide only [mjs_0, mjs_1, mjs_2, mjs_3, mjs_ble, true_and, Bool.false_eq_true, if_false, if_true, Nat.reduceAdd, Nat.reduceSub, Nat.reduceLeDiff, false_implies, true_implies, not_false_eq_true, not_true_eq_false, and_true, mm_sh, hm, mjs_up_at, mjs_up_c, mjs_up_f, eb, j50]
    refine ⟨nI_in (by omega) (by decide), fun q => absurd q (nI_ge (a := i) (b := bo) (by omega) (by omega)), fun _ => mj_blk rfl ?_⟩
    simp +decide only [mjs_0, mjs_1, mjs_2, mjs_3, mjs_ble, true_and, Bool.false_eq_true, if_false, if_true, Nat.reduceAdd, Nat.reduceSub, Nat.reduceLeDiff, false_implies, true_implies, not_false_eq_true, not_true_eq_false, and_true, mm_sh, hm, mjs_up_at, mjs_up_c, mjs_up_f, ei, j52]
    refine ⟨nI_in (by omega) (by decide), fun q => absurd ((nI_leI (a := 262144) (by decide) prt.2.2).mp q) (fun hx => absurd (prt.1.mp hx) (by omega)), fun _ => mj_blk rfl ?_⟩
    simp +decide only [mjs_0, mjs_1, mjs_2, mjs_3, mjs_ble, true_and, Bool.false_eq_true, if_false, if_true, Nat.reduceAdd, Nat.reduceSub, Nat.reduceLeDiff, false_implies, true_implies, not_false_eq_true, not_true_eq_false, and_true, mm_sh, hm, mjs_up_at, mjs_up_c, mjs_up_f, nI_1]
    exact mj_nv (ih (i + 1) (by omega) (fun q h1 h2 => hh q (by omega) h2))
end MJCO
