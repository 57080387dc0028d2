/-! A MACRO MADE, in both -/
def mkE (M : sgM) : sgM := (M.1, M.2.1, M.2.2.1, M.2.2.2.1, M.2.2.2.2.1, M.2.2.2.2.2 + 1)
def mkN (M : sgM) (z : Nat) : sgM := (M.1, ud M.2.1 (M.2.2.2.2.1 + 1) M.2.2.2.1, ud M.2.2.1 (M.2.2.2.2.1 + 1) z, M.2.2.2.1, M.2.2.2.2.1 + 1, M.2.2.2.2.2 + 1)
section MJMK
variable {X : mj_X} {d nc ns : Nat} {Q : mj_Q} {I I' J J' H : Nat → Nat → Int32} {Lg : Nat → Nat → Int64} {Rf : Nat → Nat → Option Nat} {fb fb' : Nat → Nat → Int32} {vb : Nat → Int32} {K K' K2 : Nat × Nat × Nat} {P P' P2 : List Nat} {E : sgE} {N N' N2 : sgN} {S S' S2 : sgS} {M M' : sgM} {C C' C2 : sgC} {O : sgO} {L L' L2 : sgL} {t n kc kr gl k a z xf h0 m b dp : Nat} {u : Int32} {g' g0 : sg}
theorem rr_128 {y v : Int32} {g : Nat} (h : RR H (K, P, E, N, S, M, C, O, L) J) (hv : gv (K, P, E, N, S, M, C, O, L)) (ht : tb N.2.2 t) (ht2 : 3328 ≤ t) (hw : mw M (J 48) (J 49) (J 50) (J 51) v y) (hs : mr_set J J' 45 1400 (mr_id (rb t)) (if g = 0 then S.2.2.1 else 0) (S.2.2.1 + 1) y) (hg : g = 0 ∨ g = 1) (s' : Nat) : RR H (K, P, E, N, stS S (cm_sl t) v g s', M, C, O, L) J' := by
  have hk : N.2.2 ≤ 1036 := (gv_d hv).2.2.1.2.1
  have hk1 : 36 ≤ N.2.2 := (gv_d hv).2.2.1.1
  have htl := tb_lt hk ht
  have ert := rt_tb hk ht
  have rl := rb_lt hk hk1 ht
  obtain ⟨hK, hP, hE, hN, hS, hM, hC, hO, hL, hZ⟩ := rr_d h
  have hba : mr_ba (rt t) = rb t := by
    unfold mr_ba
    rw [ert, if_neg (by omega)]
  have hlv : S.2.2.1 ≤ 100 := hS.2.2.2.2
  -- the slot and the place
  have slot : (∃ c, c < 256 ∧ cm_sl t = 512 + c ∧ mr_id (rb t) = 1100 + c) ∨ ∃ i, i < N.2.2 ∧ cm_sl t = 768 + i ∧ mr_id (rb t) = rp i := by
    unfold tb at ht
    by_cases hc : t < 3584
    · refine Or.inl ⟨t - 3328, by omega, ?_, ?_⟩
      · unfold cm_sl
        rw [if_neg (by omega)]
        omega
      · unfold mr_id rb
        rw [if_neg (show ¬ t < 3328 by omega), if_pos hc, if_pos (by omega)]
        omega
    · have hr1 := rp_lt (i := t - 65536) (k := 1036) (by omega) (by decide)
      refine Or.inr ⟨t - 65536, by omega, ?_, ?_⟩
      · unfold cm_sl
        rw [if_pos (by omega)]
        omega
      · unfold mr_id rb
        rw [if_neg (show ¬ t < 3328 by omega), if_neg hc, if_neg (show ¬ 2097152 ≤ t by omega), if_neg (by omega)]
        omega
  have hid : mr_id (rb t) < 1400 := by
    rcases slot with ⟨c, c1, _, c2⟩ | ⟨i, i1, _, i2⟩
    · omega
    · have := rp_lt i1 hk1
      omega
  obtain ⟨b1, b2, b3⟩ := hs
  -- the new rows against the new table
  have key : ∀ l z q, l ≤ S.2.2.1 → q < 1400 → (z = cm_sl t ↔ q = mr_id (rb t)) → mw M (J 48) (J 49) (J 50) (J 51) (S.1 l z) (J 45 (1400 * l + q)) → mw M (J 48) (J 49) (J 50) (J 51) ((stS S (cm_sl t) v g s').1 l z) (J' 45 (1400 * l + q)) := by
    intro l z q hl hq hzq hold
    by_cases e : z = cm_sl t
    · have eq := hzq.mp e
      rcases stS_at (S := S) (x := cm_sl t) (v := v) (g := g) (s' := s') (l := l) with ⟨a, ⟨g0, ln⟩⟩ | ⟨a, hno⟩
      · rw [e, a, ← e, b3 _ (fun l' h1 h2 => by rw [if_pos g0] at h1; omega)]
        exact hold
      · rw [e, a, eq, b2 l (by
          by_cases g0 : g = 0
          · rw [if_pos g0]
            have : l = S.2.2.1 := by
              by_cases el : l = S.2.2.1
              · exact el
              · exact absurd ⟨g0, el⟩ hno
            omega
          · rw [if_neg g0]
            omega) (by omega)]
        exact hw
    · rw [stS_ne e, b3 _ (fun l' h1 h2 hh => e (hzq.mpr (by omega)))]
      exact hold
  have e3 : ∀ b q, mxm [45] b = false → J' b q = J b q := fun b q hb => b1 b q (mxm_ne hb (by decide))
  refine mx_on (RR H (K, P, E, N, stS S (cm_sl t) v g s', M, C, O, L)) [45] e3 ?_
  have sl512 : 512 ≤ cm_sl t := by
    rcases slot with ⟨c, c1, c2, _⟩ | ⟨i, i1, i2, _⟩ <;> omega
  refine ⟨hK, hP, hE, hN, ⟨hS.1, hS.2.1, fun l c hl hc => ?_, fun l i hl hi => ?_, hlv⟩, hM, hC, hO, hL, fun c hc => (mx_z hc rfl).trans (hZ c hc)⟩
  · obtain ⟨s1, s2, s3⟩ := hS.2.2.1 l c hl hc
    rw [stS_ne (show c ≠ cm_sl t by omega), stS_ne (show 256 + c ≠ cm_sl t by omega)]
    refine ⟨s1, s2, key l (512 + c) (1100 + c) hl (by omega) ?_ s3⟩
    rcases slot with ⟨c', c1, c2, c3⟩ | ⟨i, i1, i2, i3⟩
    · omega
    · have := rp_lt i1 hk1
      omega
  · have hi' : i < N.2.2 := hi
    have hri := rp_lt hi' hk1
    refine key l (768 + i) (rp i) hl (by omega) ?_ (hS.2.2.2.1 l i hl hi)
    rcases slot with ⟨c', c1, c2, c3⟩ | ⟨j, j1, j2, j3⟩
    · omega
    · rw [j2, j3]
      constructor
      · intro e
        rw [show i = j by omega]
      · intro e
        rw [rp_inj e]
/-- the macros made stay, also beside a new one -/
theorem mk_mw {pa hd bd en pa' hd' bd' en' : Nat → Int32} {x y : Int32} (hM : gvM k M) (hE : M' = mkE M ∨ ∃ z, M' = mkN M z) (hp : ∀ b, b < M.2.2.2.2.2 → pa' b = pa b ∧ hd' b = hd b ∧ bd' b = bd b ∧ en' b = en b) (hw : mw M pa hd bd en x y) : mw M' pa' hd' bd' en' x y := by
  rcases hw with hw | hw | ⟨a, b, a1, a2, ⟨q1, q2, q3, q4⟩⟩ | hw
  · exact Or.inl hw
  · exact Or.inr (Or.inl hw)
  · obtain ⟨p1, p2, p3, p4⟩ := hp b q2
    refine Or.inr (Or.inr (Or.inl ⟨a, b, a1, a2, ?_⟩))
    rcases hE with rfl | ⟨z, rfl⟩
    · refine ⟨q1, Nat.lt_succ_of_lt q2, fun ha => ?_, fun ha => ?_⟩
      · rw [p1, p2, p3, p4]
        exact q3 ha
      · rw [p1, p2, p3, p4]
        exact q4 ha
    · refine ⟨Nat.lt_succ_of_lt q1, Nat.lt_succ_of_lt q2, fun ha => ?_, fun ha => ?_⟩
      · have e1 : (mkN M z).2.1 a = M.2.1 a := ud_ne (by omega)
        have e2 : (mkN M z).2.2.1 a = M.2.2.1 a := ud_ne (by omega)
        have e3 : (mkN M z).2.1 (a + 1) = M.2.1 (a + 1) := ud_ne (by omega)
        rw [p1, p2, p3, p4, e1, e2, e3]
        exact q3 ha
      · rw [p1, p2, p3, p4]
        exact q4 ha
  · exact Or.inr (Or.inr (Or.inr hw))
theorem gv_mkE (hv : gv (K, P, E, N, S, M, C, O, L)) (hr : M.2.2.2.2.2 + 1 ≤ 30001) : gv (K, P, E, N, S, mkE M, C, O, L) := by
  obtain ⟨g1, g2, g3, g4, ⟨m1, m2, m3, m4⟩, g6, g7, g8⟩ := gv_d hv
  exact ⟨g1, g2, g3, g4, ⟨m1, m2, ⟨m3.1, m3.2.1, m3.2.2.1, hr⟩, m4⟩, g6, g7, g8⟩
theorem mv_mono {k k' : Nat} {x : Int32} (hk : k ≤ k') (h : mv k x) : mv k' x := by
  rcases h with h | h | ⟨a, a1, a2⟩ | h
  · exact Or.inl h
  · exact Or.inr (Or.inl h)
  · exact Or.inr (Or.inr (Or.inl ⟨a, by omega, a2⟩))
  · exact Or.inr (Or.inr (Or.inr h))
theorem gv_mkN (hv : gv (K, P, E, N, S, M, C, O, L)) (hr : M.2.2.2.2.2 + 1 ≤ 30001) (hne : M.2.1 M.2.2.2.2.1 < M.2.2.2.1) (hb1 : M.2.1 M.2.2.2.2.1 ≤ M.2.2.1 M.2.2.2.2.1) (hb2 : M.2.2.1 M.2.2.2.2.1 ≤ M.2.2.2.1)
    (h1 : ∀ i, M.2.1 M.2.2.2.2.1 ≤ i → i < M.2.2.1 M.2.2.2.2.1 → 2097152 ≤ M.1 i → M.1 i = 2097153 + np M.1 (M.2.1 M.2.2.2.2.1) (i - M.2.1 M.2.2.2.2.1)) (h2 : np M.1 (M.2.1 M.2.2.2.2.1) (M.2.2.1 M.2.2.2.2.1 - M.2.1 M.2.2.2.2.1) ≤ 9) (h3 : ∀ i, M.2.2.1 M.2.2.2.2.1 ≤ i → i < M.2.2.2.1 → 2097152 ≤ M.1 i → M.1 i ≤ 2097152 + np M.1 (M.2.1 M.2.2.2.2.1) (M.2.2.1 M.2.2.2.2.1 - M.2.1 M.2.2.2.2.1)) (h4 : ∀ i, M.2.1 M.2.2.2.2.1 ≤ i → i < M.2.2.1 M.2.2.2.2.1 → ¬ (256 ≤ M.1 i ∧ M.1 i < 768)) : gv (K, P, E, N, S, mkN M z, C, O, L) := by
  obtain ⟨g1, g2, g3, ⟨s1, s2, s3, s4⟩, ⟨m1, m2, m3, m4⟩, g6, g7, g8⟩ := gv_d hv
  have st : ∀ a, a ≤ M.2.2.2.2.1 → (mkN M z).2.1 a = M.2.1 a := fun a ha => ud_ne (by omega)
  have stn : (mkN M z).2.1 (M.2.2.2.2.1 + 1) = M.2.2.2.1 := ud_at
  have bo : ∀ a, a ≤ M.2.2.2.2.1 → (mkN M z).2.2.1 a = M.2.2.1 a := fun a ha => ud_ne (by omega)
  have hm1 := m1.1
  refine ⟨g1, g2, g3, ⟨s1, s2, fun l x hl hx hx2 => mv_mono (Nat.le_succ _) (s3 l x hl hx hx2), s4⟩, ⟨⟨Nat.le_succ_of_le hm1, ?_, ?_, ?_⟩, fun a ha => ?_, ⟨?_, m3.2.1, ?_, hr⟩, m4⟩, g6, g7, g8⟩
  · rw [st 0 (by omega)]
    exact m1.2.1
  · rw [st 1 (by omega)]
    exact m1.2.2.1
  · rw [bo 0 (by omega)]
    exact m1.2.2.2
  · have ha' : a < M.2.2.2.2.1 + 1 := ha
    by_cases e : a = M.2.2.2.2.1
    · subst e
      rw [st _ (Nat.le_refl _), bo _ (Nat.le_refl _), stn]
      refine ⟨hb1, hb2, Nat.le_refl _, ?_⟩
      unfold mo
      rw [st _ (Nat.le_refl _), bo _ (Nat.le_refl _), stn]
      exact ⟨h1, h2, h3, h4⟩
    · obtain ⟨c1, c2, c3, o1, o2, o3, o4⟩ := m2 a (by omega)
      rw [st a (by omega), bo a (by omega), st (a + 1) (by omega)]
      refine ⟨c1, c2, c3, ?_⟩
      unfold mo
      rw [st a (by omega), bo a (by omega), st (a + 1) (by omega)]
      exact ⟨o1, o2, o3, o4⟩
  · show (mkN M z).2.1 (M.2.2.2.2.1 + 1) ≤ M.2.2.2.1
    rw [stn]
    exact Nat.le_refl _
  · show M.2.2.2.2.1 + 1 ≤ (mkN M z).2.1 (M.2.2.2.2.1 + 1) + 1
    rw [stn]
    have := m3.2.2.1
    omega
/-- make -/
theorem cq_52 (hR : mj_Rt mp_R Rf) (hv : gv (K, P, E, N, S, M, C, O, L)) (h : RC fb vb (K, P, E, N, S, M, C, O, L) I)
    (hQ0 : M.2.2.2.1 = M.2.1 M.2.2.2.2.1 → RC fb vb (K, P, E, N, S, mkE M, C, O, L) I → Q (.inl (some (.int (nI 0)))) (sh59, I, Lg, Rf, nc, ns))
    (hQ1 : M.2.1 M.2.2.2.2.1 < M.2.2.2.1 → ∀ I' z, RC fb vb (K, P, E, N, S, mkN M z, C, O, L) I' → Q (.inl (some (.int (nI M.2.2.2.2.1)))) (sh59, I', Lg, Rf, nc, ns)) : mj_call X mj_P (mj_bi X) (d + 1) 52 [.ref 21] (sh59, I, Lg, Rf, nc, ns) Q := by
  obtain ⟨hK, hP, hE, hN, hS, hM, hC, hO, hL, hZ⟩ := rc_d h
  obtain ⟨m1, m2, m3, m4⟩ := (gv_d hv).2.2.2.2.1
  have e3 : I 21 3 = nI M.2.2.2.1 := hM.1
  have e4 : I 23 M.2.2.2.2.1 = nI (M.2.1 M.2.2.2.2.1) := hM.2.2.2.1 _ (Nat.le_refl _)
  have hm1 := m1.1
  have hr := mc_rf hR
  by_cases hm2 : M.2.2.2.2.1 + 1 < 10002
  · refine c_52 hR (k := M.2.2.2.2.1) (by omega) hM.2.1 (fun q => ?_) (fun q => ?_)
    · rw [e3, e4] at q
      exact hQ0 ((nI_eq (by omega) (by omega)).mp q) ⟨hK, hP, hE, hN, hS, hM, hC, hO, hL, hZ⟩
    · rw [e3, e4] at q
      have hlt : M.2.1 M.2.2.2.2.1 < M.2.2.2.1 := by
        have := m3.1
        by_cases e : M.2.2.2.1 = M.2.1 M.2.2.2.2.1
        · exact absurd (congrArg nI e) q
        · omega
      obtain ⟨z, hz⟩ := nI_ex (I 24 (M.2.2.2.2.1 + 1))
      refine hQ1 hlt _ z ⟨hK, hP, hE, hN, hS, ⟨hM.1, rfl, hM.2.2.1, fun a ha => ?_, fun a ha => ?_⟩, hC, hO, hL, ⟨hZ.1, hZ.2.1, hZ.2.2.1, ?_, ?_, hZ.2.2.2.2.2⟩⟩
      · have ha' : a ≤ M.2.2.2.2.1 + 1 := ha
        show mj_up (mj_up I 23 (M.2.2.2.2.1 + 1) (I 21 3)) 21 4 _ 23 a = nI (ud M.2.1 (M.2.2.2.2.1 + 1) M.2.2.2.1 a)
        rw [mjs_up_c (by decide)]
        by_cases e : a = M.2.2.2.2.1 + 1
        · rw [e, mjs_up_at, ud_at]
          exact e3
        · rw [mjs_up_ne (Or.inr e), ud_ne e]
          exact hM.2.2.2.1 a (by omega)
      · have ha' : a ≤ M.2.2.2.2.1 + 1 := ha
        show mj_up (mj_up I 23 (M.2.2.2.2.1 + 1) (I 21 3)) 21 4 _ 24 a = nI (ud M.2.2.1 (M.2.2.2.2.1 + 1) z a)
        rw [mjs_up_c (by decide), mjs_up_c (by decide)]
        by_cases e : a = M.2.2.2.2.1 + 1
        · rw [e, ud_at]
          exact hz
        · rw [ud_ne e]
          exact hM.2.2.2.2 a (by omega)
      · rw [mjs_up_c (by decide), mjs_up_ne (Or.inr (by omega))]
        exact hZ.2.2.2.1
      · rw [mjs_up_c (by decide), mjs_up_ne (Or.inr (by omega))]
        exact hZ.2.2.2.2.1
  · have eq : M.2.2.2.1 = M.2.1 M.2.2.2.2.1 := by omega
    have ek : (nI M.2.2.2.2.1).toNatClampNeg = M.2.2.2.2.1 := nI_clamp (by omega)
    refine mj_enter (z := (1, [], mb_52)) (by decide) rfl rfl ?_
    refine mj_blk rfl ?_
    simp +decide only [mjs_0, mjs_1, mjs_2, mjs_3, mjs_ble, true_and, Bool.false_eq_true, if_false, if_true, Nat.reduceAdd, Nat.reduceSub, Nat.reduceLeDiff, false_implies, true_implies, not_false_eq_true, not_true_eq_false, and_true, mc_sh, hr, mjs_up_at, mjs_up_c, mjs_up_f, e3, hM.2.1, ek, e4]
    refine ⟨nI_in (by omega) (by decide), fun q => absurd (congrArg nI eq) q, fun _ => mj_blk rfl ?_⟩
    simp +decide only [mjs_0, mjs_1, mjs_2, mjs_3, mjs_ble, true_and, Bool.false_eq_true, if_false, if_true, Nat.reduceAdd, Nat.reduceSub, Nat.reduceLeDiff, false_implies, true_implies, not_false_eq_true, not_true_eq_false, and_true]
    exact hQ0 eq ⟨hK, hP, hE, hN, hS, hM, hC, hO, hL, hZ⟩
end MJMK
