/-! WHAT A TOKEN MEANS, in both -/
/-- the class's meaning of a token, as a number; the code of the primitive that it means, or 0; whether it is expandable -/
def gm (S : sgS) (t : Nat) : Nat := if t / 1048576 % 2 = 1 then 65555 else if t < 3328 then 196608 + t else (S.1 S.2.2.1 (cm_sl t)).toNatClampNeg
def gp (S : sgS) (t : Nat) : Nat := if gm S t / 65536 = 1 then gm S t % 65536 else 0
def gx (S : sgS) (t : Nat) : Prop := gm S t / 65536 = 2 ∨ (gm S t / 65536 = 1 ∧ gm S t % 65536 ≤ 18)
def mvn (made z : Nat) : Prop := z = 0 ∨ (65537 ≤ z ∧ z ≤ 65572) ∨ (∃ a, a < made ∧ z = 131072 + a) ∨ (196608 ≤ z ∧ z < 199936) ∨ (262144 ≤ z ∧ z < 262400)
theorem mv_n {made : Nat} {x : Int32} (hm : made ≤ 10001) (h : mv made x) : x = nI x.toNatClampNeg ∧ mvn made x.toNatClampNeg := by
  rcases h with rfl | ⟨p, p1, p2, rfl⟩ | ⟨a, a1, rfl⟩ | ⟨t, t1, rfl⟩ | ⟨n, n1, rfl⟩
  · exact ⟨by decide, Or.inl (by decide)⟩
  · rw [nI_clamp (by omega)]
    exact ⟨rfl, Or.inr (Or.inl (by omega))⟩
  · rw [nI_clamp (by omega)]
    exact ⟨rfl, Or.inr (Or.inr (Or.inl ⟨a, a1, rfl⟩))⟩
  · rw [nI_clamp (by omega)]
    exact ⟨rfl, Or.inr (Or.inr (Or.inr (Or.inl (by omega))))⟩
  · rw [nI_clamp (by omega)]
    exact ⟨rfl, Or.inr (Or.inr (Or.inr (Or.inr (by omega))))⟩
theorem mvn_lt {made z : Nat} (hm : made ≤ 10001) (h : mvn made z) : z < 262400 := by
  rcases h with h | h | ⟨a, h1, h2⟩ | h | h <;> omega
theorem gvM_made {k : Nat} {M : sgM} (h : gvM k M) : M.2.2.2.2.1 ≤ 10001 := by
  have := h.2.2.1
  omega
section MJME
variable {X : mj_X} {d nc ns : Nat} {Q : mj_Q} {I I' J J' H : Nat → Nat → Int32} {Lg : Nat → Nat → Int64} {Rf : Nat → Nat → Option Nat} {fb : Nat → Nat → Int32} {vb : Nat → Int32} {K : Nat × Nat × Nat} {P : List Nat} {E : sgE} {N : sgN} {S : sgS} {M : sgM} {C : sgC} {O : sgO} {L L' : sgL} {t : Nat}
theorem tv_sl {k : Nat} (hk : k ≤ 1036) (ht : tv k t) (hm : ¬ t / 1048576 % 2 = 1) (hc : ¬ t < 3328) : 512 ≤ cm_sl t ∧ cm_sl t < 768 + k ∧ ((3328 ≤ t ∧ t < 3584 ∧ cm_sl t = 512 + (t - 3328)) ∨ (65536 ≤ t ∧ t < 65536 + k ∧ cm_sl t = 768 + (t - 65536))) := by
  unfold tv tb at ht
  unfold cm_sl
  split <;> omega
theorem gm_v (hv : gv (K, P, E, N, S, M, C, O, L)) (ht : tv N.2.2 t) : mvn M.2.2.2.2.1 (gm S t) ∧ (¬ t / 1048576 % 2 = 1 → ¬ t < 3328 → S.1 S.2.2.1 (cm_sl t) = nI (gm S t)) := by
  have hk := (gv_d hv).2.2.1.2.1
  have hmd := gvM_made (gv_d hv).2.2.2.2.1
  unfold gm
  by_cases h1 : t / 1048576 % 2 = 1
  · rw [if_pos h1]
    exact ⟨Or.inr (Or.inl (by omega)), fun h => absurd h1 h⟩
  · rw [if_neg h1]
    by_cases h2 : t < 3328
    · rw [if_pos h2]
      exact ⟨Or.inr (Or.inr (Or.inr (Or.inl (by omega)))), fun _ h => absurd h2 h⟩
    · rw [if_neg h2]
      obtain ⟨s1, s2, -⟩ := tv_sl hk ht h1 h2
      have := mv_n hmd ((gv_d hv).2.2.2.1.2.2.1 S.2.2.1 (cm_sl t) (Nat.le_refl _) s1 s2)
      exact ⟨this.2, fun _ _ => this.1⟩
theorem gm_lt (hv : gv (K, P, E, N, S, M, C, O, L)) (ht : tv N.2.2 t) : gm S t < 262400 := mvn_lt (gvM_made (gv_d hv).2.2.2.2.1) (gm_v hv ht).1
theorem cm_gm (hS : rcS S I) (hv : gv (K, P, E, N, S, M, C, O, L)) (ht : tv N.2.2 t) : cm_me I t = nI (gm S t) := by
  have hk : N.2.2 ≤ 1036 := (gv_d hv).2.2.1.2.1
  have h := (gm_v hv ht).2
  unfold cm_me
  by_cases h1 : t / 1048576 % 2 = 1
  · rw [if_pos h1]
    unfold gm
    rw [if_pos h1]
  · rw [if_neg h1]
    by_cases h2 : t < 3328
    · rw [if_pos h2]
      unfold gm
      rw [if_neg h1, if_pos h2]
    · rw [if_neg h2, rc_10 hS (by have := (tv_sl hk ht h1 h2).2.1; omega)]
      exact h h1 h2
theorem cm_sl_lt (hv : gv (K, P, E, N, S, M, C, O, L)) (ht : tv N.2.2 t) : cm_sl t < 1804 := by
  have hk : N.2.2 ≤ 1036 := (gv_d hv).2.2.1.2.1
  unfold tv tb at ht
  unfold cm_sl
  split <;> omega
theorem cq_96 (hR : mj_Rt mp_R Rf) (h : RC fb vb (K, P, E, N, S, M, C, O, L) I) (hv : gv (K, P, E, N, S, M, C, O, L)) (ht : tv N.2.2 t) (hQ : Q (.inl (some (.int (nI (gm S t))))) (sh59, I, Lg, Rf, nc, ns)) : mj_call X mj_P (mj_bi X) (d + 2) 96 [.ref 9, .int (nI t)] (sh59, I, Lg, Rf, nc, ns) Q := by
  have htl := tv_lt (gv_d hv).2.2.1.2.1 ht
  refine c_96 hR (by omega) (cm_sl_lt hv ht) ?_
  rw [cm_gm h.2.2.2.2.1 hv ht]
  exact hQ
theorem cq_97 (hR : mj_Rt mp_R Rf) (h : RC fb vb (K, P, E, N, S, M, C, O, L) I) (hv : gv (K, P, E, N, S, M, C, O, L)) (ht : tv N.2.2 t) (hQ : Q (.inl (some (.int (nI (gp S t))))) (sh59, I, Lg, Rf, nc, ns)) : mj_call X mj_P (mj_bi X) (d + 3) 97 [.ref 9, .int (nI t)] (sh59, I, Lg, Rf, nc, ns) Q := by
  have hlt := gm_lt hv ht
  unfold gp at hQ
  refine mj_enter (z := (3, [], mb_97)) (by decide) rfl rfl ?_
  refine mj_blk rfl ?_
  simp +decide only [mjs_0, mjs_1, mjs_2, mjs_3, mjs_ble, true_and, Bool.false_eq_true, if_false, if_true, Nat.reduceAdd, Nat.reduceSub, Nat.reduceLeDiff, false_implies, true_implies, not_false_eq_true, not_true_eq_false, and_true, mc_sh]
  refine cq_96 hR h hv ht ?_
  simp +decide only [mjs_0, mjs_1, mjs_2, mjs_3, mjs_ble, true_and, Bool.false_eq_true, if_false, if_true, Nat.reduceAdd, Nat.reduceSub, Nat.reduceLeDiff, false_implies, true_implies, not_false_eq_true, not_true_eq_false, and_true]
  refine c_93 (by omega) ?_
  simp +decide only [mjs_0, mjs_1, mjs_2, mjs_3, mjs_ble, true_and, Bool.false_eq_true, if_false, if_true, Nat.reduceAdd, Nat.reduceSub, Nat.reduceLeDiff, false_implies, true_implies, not_false_eq_true, not_true_eq_false, and_true]
  refine ⟨fun q => mj_blk rfl ?_, fun q => mj_blk rfl ?_⟩
  · rw [if_neg (fun e => q (by rw [e]; rfl))] at hQ
    simp +decide only [mjs_0, mjs_1, mjs_2, mjs_3, mjs_ble, true_and, Bool.false_eq_true, if_false, if_true, Nat.reduceAdd, Nat.reduceSub, Nat.reduceLeDiff, false_implies, true_implies, not_false_eq_true, not_true_eq_false, and_true]
    refine mj_blk rfl ?_
    simp +decide only [mjs_0, mjs_1, mjs_2, mjs_3, mjs_ble, true_and, Bool.false_eq_true, if_false, if_true, Nat.reduceAdd, Nat.reduceSub, Nat.reduceLeDiff, false_implies, true_implies, not_false_eq_true, not_true_eq_false, and_true]
    exact hQ
  · rw [if_pos ((nI_eq (by omega) (by decide)).mp (show nI (gm S t / 65536) = nI 1 from Decidable.not_not.mp q))] at hQ
    simp +decide only [mjs_0, mjs_1, mjs_2, mjs_3, mjs_ble, true_and, Bool.false_eq_true, if_false, if_true, Nat.reduceAdd, Nat.reduceSub, Nat.reduceLeDiff, false_implies, true_implies, not_false_eq_true, not_true_eq_false, and_true]
    refine c_94 ?_
    simp +decide only [mjs_0, mjs_1, mjs_2, mjs_3, mjs_ble, true_and, Bool.false_eq_true, if_false, if_true, Nat.reduceAdd, Nat.reduceSub, Nat.reduceLeDiff, false_implies, true_implies, not_false_eq_true, not_true_eq_false, and_true]
    refine mj_blk rfl ?_
    simp +decide only [mjs_0, mjs_1, mjs_2, mjs_3, mjs_ble, true_and, Bool.false_eq_true, if_false, if_true, Nat.reduceAdd, Nat.reduceSub, Nat.reduceLeDiff, false_implies, true_implies, not_false_eq_true, not_true_eq_false, and_true]
    exact hQ
theorem c_95n {z : Nat} {S' : mj_S} (hz : z < 2 ^ 31) (hQ1 : (z / 65536 = 2 ∨ (z / 65536 = 1 ∧ z % 65536 ≤ 18)) → Q (.inl (some (.int 1))) S') (hQ0 : ¬ (z / 65536 = 2 ∨ (z / 65536 = 1 ∧ z % 65536 ≤ 18)) → Q (.inl (some (.int 0))) S') : mj_call X mj_P (mj_bi X) (d + 2) 95 [.int (nI z)] S' Q := by
  have K24 : (z / 65536 = 2 ∨ (z / 65536 = 1 ∧ z % 65536 ≤ 18)) → ∀ a b : Option Value, mj_rn X (mj_hd []) (mj_call X mj_P (mj_bi X) (d + 1)) mb_95 24 [a, b] [] S' Q := by
    intro h a b
    refine mj_blk rfl ?_
    simp +decide only [mjs_0, mjs_1, mjs_2, mjs_3, mjs_ble, true_and, Bool.false_eq_true, if_false, if_true, Nat.reduceAdd, Nat.reduceSub, Nat.reduceLeDiff, false_implies, true_implies, not_false_eq_true, not_true_eq_false, and_true]
    refine mj_blk rfl ?_
    simp +decide only [mjs_0, mjs_1, mjs_2, mjs_3, mjs_ble, true_and, Bool.false_eq_true, if_false, if_true, Nat.reduceAdd, Nat.reduceSub, Nat.reduceLeDiff, false_implies, true_implies, not_false_eq_true, not_true_eq_false, and_true]
    exact hQ1 h
  have K28 : ¬ (z / 65536 = 2 ∨ (z / 65536 = 1 ∧ z % 65536 ≤ 18)) → ∀ a b : Option Value, mj_rn X (mj_hd []) (mj_call X mj_P (mj_bi X) (d + 1)) mb_95 28 [a, b] [] S' Q := by
    intro h a b
    refine mj_blk rfl ?_
    simp +decide only [mjs_0, mjs_1, mjs_2, mjs_3, mjs_ble, true_and, Bool.false_eq_true, if_false, if_true, Nat.reduceAdd, Nat.reduceSub, Nat.reduceLeDiff, false_implies, true_implies, not_false_eq_true, not_true_eq_false, and_true]
    refine mj_blk rfl ?_
    simp +decide only [mjs_0, mjs_1, mjs_2, mjs_3, mjs_ble, true_and, Bool.false_eq_true, if_false, if_true, Nat.reduceAdd, Nat.reduceSub, Nat.reduceLeDiff, false_implies, true_implies, not_false_eq_true, not_true_eq_false, and_true]
    exact hQ0 h
  refine mj_enter (z := (2, [], mb_95)) (by decide) rfl rfl ?_
  refine mj_blk rfl ?_
  simp +decide only [mjs_0, mjs_1, mjs_2, mjs_3, mjs_ble, true_and, Bool.false_eq_true, if_false, if_true, Nat.reduceAdd, Nat.reduceSub, Nat.reduceLeDiff, false_implies, true_implies, not_false_eq_true, not_true_eq_false, and_true]
  refine c_93 hz ?_
  simp +decide only [mjs_0, mjs_1, mjs_2, mjs_3, mjs_ble, true_and, Bool.false_eq_true, if_false, if_true, Nat.reduceAdd, Nat.reduceSub, Nat.reduceLeDiff, false_implies, true_implies, not_false_eq_true, not_true_eq_false, and_true]
  refine ⟨fun q => K24 (Or.inl ((nI_eq (by omega) (by decide)).mp (show nI (z / 65536) = nI 2 from q))) _ _, fun q => mj_blk rfl ?_⟩
  have n2 : z / 65536 ≠ 2 := fun e => q (by rw [e]; rfl)
  simp +decide only [mjs_0, mjs_1, mjs_2, mjs_3, mjs_ble, true_and, Bool.false_eq_true, if_false, if_true, Nat.reduceAdd, Nat.reduceSub, Nat.reduceLeDiff, false_implies, true_implies, not_false_eq_true, not_true_eq_false, and_true]
  refine ⟨fun q1 => K28 (fun hh => ?_) _ _, fun q1 => mj_blk rfl ?_⟩
  · rcases hh with hh | hh
    · exact n2 hh
    · exact q1 (by rw [hh.1]; rfl)
  · have e1 : z / 65536 = 1 := (nI_eq (by omega) (by decide)).mp (show nI (z / 65536) = nI 1 from Decidable.not_not.mp q1)
    simp +decide only [mjs_0, mjs_1, mjs_2, mjs_3, mjs_ble, true_and, Bool.false_eq_true, if_false, if_true, Nat.reduceAdd, Nat.reduceSub, Nat.reduceLeDiff, false_implies, true_implies, not_false_eq_true, not_true_eq_false, and_true]
    refine c_94 ?_
    simp +decide only [mjs_0, mjs_1, mjs_2, mjs_3, mjs_ble, true_and, Bool.false_eq_true, if_false, if_true, Nat.reduceAdd, Nat.reduceSub, Nat.reduceLeDiff, false_implies, true_implies, not_false_eq_true, not_true_eq_false, and_true]
    refine ⟨fun q2 => K28 (fun hh => ?_) _ _, fun q2 => K24 (Or.inr ⟨e1, ?_⟩) _ _⟩
    · have := (nI_ltI (a := 18) (b := z % 65536) (by decide) (by omega)).mp q2
      omega
    · by_cases h : 18 < z % 65536
      · exact absurd (show nI 18 < nI (z % 65536) from nI_lt h (by omega)) q2
      · omega
theorem cq_24 (hR : mj_Rt mp_R Rf) (h : RC fb vb (K, P, E, N, S, M, C, O, L) I) (hv : gv (K, P, E, N, S, M, C, O, L)) (ht : tv N.2.2 t) (hQ1 : gx S t → Q (.inl (some (.int 1))) (sh59, I, Lg, Rf, nc, ns)) (hQ0 : ¬ gx S t → Q (.inl (some (.int 0))) (sh59, I, Lg, Rf, nc, ns)) : mj_call X mj_P (mj_bi X) (d + 3) 24 [.ref 28, .int (nI t)] (sh59, I, Lg, Rf, nc, ns) Q := by
  have hr := mc_rf hR
  have hlt := gm_lt hv ht
  have htl := tv_lt (gv_d hv).2.2.1.2.1 ht
  have hne : ¬ nI t = -1 := fun e => absurd (nI_pos (n := t) (by omega)) (by rw [e]; decide)
  refine mj_enter (z := (2, [], mb_24)) (by decide) rfl rfl ?_
  refine mj_blk rfl ?_
  simp +decide only [mjs_0, mjs_1, mjs_2, mjs_3, mjs_ble, true_and, Bool.false_eq_true, if_false, if_true, Nat.reduceAdd, Nat.reduceSub, Nat.reduceLeDiff, false_implies, true_implies, not_false_eq_true, not_true_eq_false, and_true]
  refine ⟨fun q => absurd q hne, fun _ => mj_blk rfl ?_⟩
  simp +decide only [mjs_0, mjs_1, mjs_2, mjs_3, mjs_ble, true_and, Bool.false_eq_true, if_false, if_true, Nat.reduceAdd, Nat.reduceSub, Nat.reduceLeDiff, false_implies, true_implies, not_false_eq_true, not_true_eq_false, and_true, mc_sh, hr, mjs_up_at, mjs_up_c, mjs_up_f]
  refine cq_96 hR h hv ht ?_
  simp +decide only [mjs_0, mjs_1, mjs_2, mjs_3, mjs_ble, true_and, Bool.false_eq_true, if_false, if_true, Nat.reduceAdd, Nat.reduceSub, Nat.reduceLeDiff, false_implies, true_implies, not_false_eq_true, not_true_eq_false, and_true]
  refine c_95n (by omega) (fun hx => ?_) (fun hx => ?_)
  · simp +decide only [mjs_0, mjs_1, mjs_2, mjs_3, mjs_ble, true_and, Bool.false_eq_true, if_false, if_true, Nat.reduceAdd, Nat.reduceSub, Nat.reduceLeDiff, false_implies, true_implies, not_false_eq_true, not_true_eq_false, and_true]
    refine mj_blk rfl ?_
    simp +decide only [mjs_0, mjs_1, mjs_2, mjs_3, mjs_ble, true_and, Bool.false_eq_true, if_false, if_true, Nat.reduceAdd, Nat.reduceSub, Nat.reduceLeDiff, false_implies, true_implies, not_false_eq_true, not_true_eq_false, and_true]
    refine mj_blk rfl ?_
    simp +decide only [mjs_0, mjs_1, mjs_2, mjs_3, mjs_ble, true_and, Bool.false_eq_true, if_false, if_true, Nat.reduceAdd, Nat.reduceSub, Nat.reduceLeDiff, false_implies, true_implies, not_false_eq_true, not_true_eq_false, and_true]
    exact hQ1 hx
  · simp +decide only [mjs_0, mjs_1, mjs_2, mjs_3, mjs_ble, true_and, Bool.false_eq_true, if_false, if_true, Nat.reduceAdd, Nat.reduceSub, Nat.reduceLeDiff, false_implies, true_implies, not_false_eq_true, not_true_eq_false, and_true]
    refine mj_blk rfl ?_
    simp +decide only [mjs_0, mjs_1, mjs_2, mjs_3, mjs_ble, true_and, Bool.false_eq_true, if_false, if_true, Nat.reduceAdd, Nat.reduceSub, Nat.reduceLeDiff, false_implies, true_implies, not_false_eq_true, not_true_eq_false, and_true]
    refine mj_blk rfl ?_
    simp +decide only [mjs_0, mjs_1, mjs_2, mjs_3, mjs_ble, true_and, Bool.false_eq_true, if_false, if_true, Nat.reduceAdd, Nat.reduceSub, Nat.reduceLeDiff, false_implies, true_implies, not_false_eq_true, not_true_eq_false, and_true]
    exact hQ0 hx
theorem cq_24e {S' : mj_S} (hQ : Q (.inl (some (.int 0))) S') : mj_call X mj_P (mj_bi X) (d + 1) 24 [.ref 28, .int (-1)] S' Q := by
  refine mj_enter (z := (2, [], mb_24)) (by decide) rfl rfl ?_
  refine mj_blk rfl ?_
  simp +decide only [mjs_0, mjs_1, mjs_2, mjs_3, mjs_ble, true_and, Bool.false_eq_true, if_false, if_true, Nat.reduceAdd, Nat.reduceSub, Nat.reduceLeDiff, false_implies, true_implies, not_false_eq_true, not_true_eq_false, and_true]
  refine mj_blk rfl ?_
  simp +decide only [mjs_0, mjs_1, mjs_2, mjs_3, mjs_ble, true_and, Bool.false_eq_true, if_false, if_true, Nat.reduceAdd, Nat.reduceSub, Nat.reduceLeDiff, false_implies, true_implies, not_false_eq_true, not_true_eq_false, and_true]
  refine mj_blk rfl ?_
  simp +decide only [mjs_0, mjs_1, mjs_2, mjs_3, mjs_ble, true_and, Bool.false_eq_true, if_false, if_true, Nat.reduceAdd, Nat.reduceSub, Nat.reduceLeDiff, false_implies, true_implies, not_false_eq_true, not_true_eq_false, and_true]
  exact hQ
/-- the reference's meaning -/
theorem rr_me (h : RR H (K, P, E, N, S, M, C, O, L) J) (hv : gv (K, P, E, N, S, M, C, O, L)) (ht : tv N.2.2 t) : mw M (J 48) (J 49) (J 50) (J 51) (nI (gm S t)) (mr_me J 36 S.2.2.1 (rt t)) ∧ (65536 ≤ rt t → rt t < 524288 → mr_id (rt t) < 1400) ∧ (t / 1048576 % 2 = 1 ↔ 524288 ≤ rt t) ∧ (t < 3328 ↔ rt t < 65536) ∧ rt t < 655616 := by
  have hk1 : 36 ≤ N.2.2 := (gv_d hv).2.2.1.1
  have hk : N.2.2 ≤ 1036 := (gv_d hv).2.2.1.2.1
  have hg := (gm_v hv ht).2
  have hlt := rt_lt hk hk1 ht
  by_cases h1 : t / 1048576 % 2 = 1
  · have e : gm S t = 65555 := by
      unfold gm
      rw [if_pos h1]
    have ht2 : 1048576 ≤ t ∧ t < 2097152 ∧ 3328 ≤ t - 1048576 ∧ tb N.2.2 (t - 1048576) := by
      unfold tv tb at ht
      unfold tb
      omega
    have er : 524288 ≤ rt t := by
      unfold rt
      rw [if_pos ⟨ht2.1, ht2.2.1⟩]
      omega
    rw [e]
    refine ⟨?_, fun a b => absurd b (by omega), ⟨fun _ => er, fun _ => h1⟩, ⟨fun a => absurd a (by omega), fun a => absurd a (by omega)⟩, hlt⟩
    unfold mr_me
    rw [if_pos er]
    exact Or.inr (Or.inl ⟨19, by decide, by decide, rfl, rfl⟩)
  · have ht2 : tb N.2.2 t := by
      unfold tv tb at ht
      unfold tb
      omega
    have htl := tb_lt hk ht2
    have ert : rt t = rb t := by
      unfold rt
      rw [if_neg (by omega)]
    have hrb := rb_lt hk hk1 ht2
    rw [ert]
    by_cases h2 : t < 3328
    · have e : gm S t = 196608 + t := by
        unfold gm
        rw [if_neg h1, if_pos h2]
      have e2 : rb t = t := by
        unfold rb
        rw [if_pos h2]
      rw [e, e2]
      refine ⟨?_, fun a => absurd a (by omega), ⟨fun a => absurd a h1, fun a => absurd a (by omega)⟩, ⟨fun _ => by omega, fun _ => h2⟩, by omega⟩
      unfold mr_me
      rw [if_neg (by omega), if_pos (by omega)]
      exact Or.inr (Or.inr (Or.inr (Or.inl ⟨t, h2, rfl, rfl⟩)))
    · have hsl := hg h1 h2
      obtain ⟨-, -, h3⟩ := tv_sl hk ht h1 h2
      have n1 : ¬ 524288 ≤ rb t := by omega
      have n2 : ¬ rb t < 65536 := fun hh => h2 (hrb.2.2.2.2.mpr hh)
      have ei : mr_id (rb t) < 1400 := by
        unfold mr_id
        split <;> omega
      refine ⟨?_, fun _ _ => ei, ⟨fun a => absurd a h1, fun a => absurd a n1⟩, ⟨fun a => absurd a h2, fun a => absurd a n2⟩, by omega⟩
      unfold mr_me
      rw [if_neg n1, if_neg n2, ← hsl]
      rcases h3 with ⟨a1, a2, a3⟩ | ⟨a1, a2, a3⟩
      · have e2 : mr_id (rb t) = 1100 + (t - 3328) := by
          unfold rb mr_id
          rw [if_neg h2, if_pos a2, if_pos (by omega)]
          omega
        rw [e2, a3]
        exact (h.2.2.2.2.1.2.2.1 S.2.2.1 (t - 3328) (Nat.le_refl _) (by omega)).2.2
      · have e2 : mr_id (rb t) = rp (t - 65536) := by
          have := rp_lt (show t - 65536 < N.2.2 by omega) hk1
          have erb : rb t = 65536 + rp (t - 65536) := by
            unfold rb
            rw [if_neg h2, if_neg (by omega), if_neg (by omega)]
          rw [erb]
          unfold mr_id
          rw [if_neg (by omega)]
          omega
        rw [e2, a3]
        exact h.2.2.2.2.1.2.2.2.1 S.2.2.1 (t - 65536) (Nat.le_refl _) (by first | omega | (dsimp only; omega))
theorem mw_n {pa hd bd en : Nat → Int32} {z : Nat} {y : Int32} {k : Nat} (hM : gvM k M) (hz : z < 2 ^ 31) (h : mw M pa hd bd en (nI z) y) : (z = 0 ∧ y = 0) ∨ (∃ p, 1 ≤ p ∧ p ≤ 36 ∧ z = 65536 + p ∧ y = nI (1000 + rp (p - 1))) ∨ (∃ a b, z = 131072 + a ∧ b < 30001 ∧ y = nI (100000 + b) ∧ mq M pa hd bd en a b) ∨ (∃ t, t < 3328 ∧ z = 196608 + t ∧ y = nI (2000000 + t)) ∨ ∃ n, n < 256 ∧ z = 262144 + n ∧ y = nI (3000000 + n) := by
  have hm := gvM_made hM
  rcases h with ⟨e, h⟩ | ⟨p, p1, p2, e, h⟩ | ⟨a, b, e, h, hq⟩ | ⟨t, t1, e, h⟩ | ⟨n, n1, e, h⟩
  · exact Or.inl ⟨tk_0 hz e, h⟩
  · exact Or.inr (Or.inl ⟨p, p1, p2, (nI_eq hz (by omega)).mp e, h⟩)
  · have := hq.1
    have := hq.2.1
    have := hM.2.2.1.2.2.2
    exact Or.inr (Or.inr (Or.inl ⟨a, b, (nI_eq hz (by omega)).mp e, by omega, h, hq⟩))
  · exact Or.inr (Or.inr (Or.inr (Or.inl ⟨t, t1, (nI_eq hz (by omega)).mp e, h⟩)))
  · exact Or.inr (Or.inr (Or.inr (Or.inr ⟨n, n1, (nI_eq hz (by omega)).mp e, h⟩)))
theorem nI_bt {a b c : Nat} (ha : a < 2 ^ 31) (hb : b < 2 ^ 31) (hc : c < 2 ^ 31) : (nI a ≤ nI b ∧ nI b ≤ nI c) ↔ (a ≤ b ∧ b ≤ c) := by
  rw [nI_leI ha hb, nI_leI hb hc]
theorem mw_ex {pa hd bd en : Nat → Int32} {z : Nat} {y : Int32} {k : Nat} (hM : gvM k M) (hz : z < 2 ^ 31) (h : mw M pa hd bd en (nI z) y) : mr_ex y ↔ (z / 65536 = 2 ∨ (z / 65536 = 1 ∧ z % 65536 ≤ 18)) := by
  have hm := gvM_made hM
  have key : ∀ w : Nat, w < 2 ^ 31 → (mr_ex (nI w) ↔ ((1000 ≤ w ∧ w ≤ 1017) ∨ (100000 ≤ w ∧ w < 2000000))) := by
    intro w hw
    unfold mr_ex
    rw [show (1000 : Int32) = nI 1000 from rfl, show (1017 : Int32) = nI 1017 from rfl, show (100000 : Int32) = nI 100000 from rfl, show (2000000 : Int32) = nI 2000000 from rfl, nI_leI (by decide) hw, nI_leI hw (by decide), nI_leI (by decide) hw, nI_ltI hw (by decide)]
  rcases mw_n hM hz h with ⟨e, rfl⟩ | ⟨p, p1, p2, e, rfl⟩ | ⟨a, b, e, hb, rfl, hq⟩ | ⟨t, t1, e, rfl⟩ | ⟨n, n1, e, rfl⟩
  · rw [show (0 : Int32) = nI 0 from rfl, key 0 (by decide)]
    omega
  · have hp := rp_lt (show p - 1 < 36 by omega) (Nat.le_refl 36)
    have hp2 : rp (p - 1) ≤ 17 ↔ p ≤ 18 := by
      unfold rp
      split
      · omega
      · split <;> omega
    rw [key _ (by omega)]
    omega
  · have := hq.1
    rw [key _ (by omega)]
    omega
  · rw [key _ (by omega)]
    omega
  · rw [key _ (by omega)]
    omega
/-- the reference's tests of a token -/
theorem rq_127 (hM' : mj_Rt mm_R Rf) (h : RR H (K, P, E, N, S, M, C, O, L) J) (hv : gv (K, P, E, N, S, M, C, O, L)) (ht : tv N.2.2 t) (hQ1 : gx S t → Q (.inl (some (.int 1))) (sh59, J, Lg, Rf, nc, ns)) (hQ0 : ¬ gx S t → Q (.inl (some (.int 0))) (sh59, J, Lg, Rf, nc, ns)) : mj_call X mj_P (mj_bi X) (d + 4) 127 [.ref 36, .int (nI (rt t))] (sh59, J, Lg, Rf, nc, ns) Q := by
  obtain ⟨a1, a2, a3, a4, a5⟩ := rr_me h hv ht
  have hlt := gm_lt hv ht
  have hx := mw_ex (gv_d hv).2.2.2.2.1 (show gm S t < 2 ^ 31 by omega) a1
  refine r_127 (mm_W hM') (by omega) h.2.2.2.2.1.1 (gv_d hv).2.2.2.1.1 a2 (fun hh => hQ1 (hx.mp hh.2)) (fun hh => hQ0 (fun hg => ?_))
  refine hh ⟨⟨?_, ?_⟩, hx.mpr hg⟩
  · by_cases e : t < 3328
    · have e2 : gm S t = 196608 + t ∨ gm S t = 65555 := by
        unfold gm
        by_cases h9 : t / 1048576 % 2 = 1
        · rw [if_pos h9]
          exact Or.inr rfl
        · rw [if_neg h9, if_pos e]
          exact Or.inl rfl
      unfold gx at hg
      omega
    · have : ¬ rt t < 65536 := fun hh => e (a4.mpr hh)
      omega
  · by_cases e : t / 1048576 % 2 = 1
    · have e2 : gm S t = 65555 := by
        unfold gm
        rw [if_pos e]
      unfold gx at hg
      omega
    · have : ¬ 524288 ≤ rt t := fun hh => e (a3.mpr hh)
      omega
theorem mw_p {pa hd bd en : Nat → Int32} {z : Nat} {y : Int32} {k : Nat} (hM : gvM k M) (hz : z < 2 ^ 31) (h : mw M pa hd bd en (nI z) y) {p : Nat} (h1 : 1 ≤ p) (h2 : p ≤ 36) : y = nI (1000 + rp (p - 1)) ↔ (if z / 65536 = 1 then z % 65536 else 0) = p := by
  have hm := gvM_made hM
  have hp := rp_lt (show p - 1 < 36 by omega) (Nat.le_refl 36)
  have key : ∀ w : Nat, w < 2 ^ 31 → (nI w = nI (1000 + rp (p - 1)) ↔ w = 1000 + rp (p - 1)) := fun w hw => nI_eq hw (by omega)
  rcases mw_n hM hz h with ⟨e, rfl⟩ | ⟨q, q1, q2, e, rfl⟩ | ⟨a, b, e, hb, rfl, hq⟩ | ⟨t, t1, e, rfl⟩ | ⟨n, n1, e, rfl⟩
  · rw [show (0 : Int32) = nI 0 from rfl, key 0 (by decide), if_neg (by omega)]
    omega
  · have hq := rp_lt (show q - 1 < 36 by omega) (Nat.le_refl 36)
    rw [key _ (by omega), if_pos (by omega)]
    constructor
    · intro hh
      have := rp_inj (show rp (q - 1) = rp (p - 1) by omega)
      omega
    · intro hh
      have : q = p := by omega
      rw [this]
  · have := hq.1
    rw [key _ (by omega), if_neg (by omega)]
    omega
  · rw [key _ (by omega), if_neg (by omega)]
    omega
  · rw [key _ (by omega), if_neg (by omega)]
    omega
theorem rq_126 (hM' : mj_Rt mm_R Rf) (h : RR H (K, P, E, N, S, M, C, O, L) J) (hv : gv (K, P, E, N, S, M, C, O, L)) (ht : tv N.2.2 t) {p k : Nat} (h1 : 1 ≤ p) (h2 : p ≤ 36) (hk : k = rp (p - 1)) (hQ1 : gp S t = p → Q (.inl (some (.int 1))) (sh59, J, Lg, Rf, nc, ns)) (hQ0 : gp S t ≠ p → Q (.inl (some (.int 0))) (sh59, J, Lg, Rf, nc, ns)) : mj_call X mj_P (mj_bi X) (d + 4) 126 [.ref 36, .int (nI (rt t)), .int (nI k)] (sh59, J, Lg, Rf, nc, ns) Q := by
  obtain ⟨a1, a2, a3, a4, a5⟩ := rr_me h hv ht
  have hlt := gm_lt hv ht
  have hx := mw_p (gv_d hv).2.2.2.2.1 (show gm S t < 2 ^ 31 by omega) a1 h1 h2
  refine r_126 (mm_W hM') (by omega) h.2.2.2.2.1.1 (gv_d hv).2.2.2.1.1 a2 ?_
  rw [hk]
  by_cases hg : gp S t = p
  · rw [if_pos (hx.mpr hg)]
    exact hQ1 hg
  · rw [if_neg (fun hh => hg (hx.mp hh))]
    exact hQ0 hg
theorem rq_151 (hM' : mj_Rt mm_R Rf) (h : RR H (K, P, E, N, S, M, C, O, L) J) (hv : gv (K, P, E, N, S, M, C, O, L)) (ht : tv N.2.2 t) (hQ1 : 8 ≤ gp S t ∧ gp S t ≤ 15 → Q (.inl (some (.int 1))) (sh59, J, Lg, Rf, nc, ns)) (hQ0 : ¬ (8 ≤ gp S t ∧ gp S t ≤ 15) → Q (.inl (some (.int 0))) (sh59, J, Lg, Rf, nc, ns)) : mj_call X mj_P (mj_bi X) (d + 4) 151 [.ref 36, .int (nI (rt t))] (sh59, J, Lg, Rf, nc, ns) Q := by
  obtain ⟨a1, a2, a3, a4, a5⟩ := rr_me h hv ht
  have hlt := gm_lt hv ht
  have hm := gvM_made (gv_d hv).2.2.2.2.1
  have hz : gm S t < 2 ^ 31 := by omega
  have hx : (1007 ≤ mr_me J 36 S.2.2.1 (rt t) ∧ mr_me J 36 S.2.2.1 (rt t) ≤ 1014) ↔ (8 ≤ gp S t ∧ gp S t ≤ 15) := by
    generalize mr_me J 36 S.2.2.1 (rt t) = y at a1
    unfold gp
    generalize gm S t = z at a1 hz
    have key : ∀ w : Nat, w < 2 ^ 31 → ((1007 ≤ nI w ∧ nI w ≤ 1014) ↔ (1007 ≤ w ∧ w ≤ 1014)) := fun w hw => nI_bt (a := 1007) (c := 1014) (by decide) hw (by decide)
    rcases mw_n (gv_d hv).2.2.2.2.1 hz a1 with ⟨e, rfl⟩ | ⟨q, q1, q2, e, rfl⟩ | ⟨a, b, e, hb, rfl, hq⟩ | ⟨t, t1, e, rfl⟩ | ⟨n, n1, e, rfl⟩
    · rw [show (0 : Int32) = nI 0 from rfl, key 0 (by decide), if_neg (by omega)]
      omega
    · have hq := rp_lt (show q - 1 < 36 by omega) (Nat.le_refl 36)
      rw [key _ (by omega), if_pos (by omega)]
      unfold rp
      split
      · omega
      · split <;> omega
    · have := hq.1
      rw [key _ (by omega), if_neg (by omega)]
      omega
    · rw [key _ (by omega), if_neg (by omega)]
      omega
    · rw [key _ (by omega), if_neg (by omega)]
      omega
  exact r_151 (mm_W hM') (by omega) h.2.2.2.2.1.1 (gv_d hv).2.2.2.1.1 a2 (fun hh => hQ1 (hx.mp hh)) (fun hh => hQ0 (fun hg => hh (hx.mpr hg)))
end MJME
