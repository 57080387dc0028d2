/-! A SLOT SET, in both -/
def stS (S : sgS) (x : Nat) (v : Int32) (g s' : Nat) : sgS := (fun l => if g = 0 ∧ l ≠ S.2.2.1 then S.1 l else ud (S.1 l) x v, S.2.1, S.2.2.1, s')
theorem stS_ne {S : sgS} {x : Nat} {v : Int32} {g s' l y : Nat} (h : y ≠ x) : (stS S x v g s').1 l y = S.1 l y := by
  show (if g = 0 ∧ l ≠ S.2.2.1 then S.1 l else ud (S.1 l) x v) y = _
  split
  · rfl
  · exact ud_ne h
theorem stS_at {S : sgS} {x : Nat} {v : Int32} {g s' l : Nat} : (stS S x v g s').1 l x = S.1 l x ∧ (g = 0 ∧ l ≠ S.2.2.1) ∨ (stS S x v g s').1 l x = v ∧ ¬ (g = 0 ∧ l ≠ S.2.2.1) := by
  show (if g = 0 ∧ l ≠ S.2.2.1 then S.1 l else ud (S.1 l) x v) x = _ ∧ _ ∨ (if g = 0 ∧ l ≠ S.2.2.1 then S.1 l else ud (S.1 l) x v) x = _ ∧ _
  by_cases h : g = 0 ∧ l ≠ S.2.2.1
  · rw [if_pos h]
    exact Or.inl ⟨rfl, h⟩
  · rw [if_neg h]
    exact Or.inr ⟨ud_at, h⟩
section MJSS
variable {X : mj_X} {d nc ns : Nat} {Q : mj_Q} {I I' J J' H : Nat → Nat → Int32} {Lg : Nat → Nat → Int64} {Rf : Nat → Nat → Option Nat} {fb fb' : Nat → Nat → Int32} {vb : Nat → Int32} {K K' K'' : Nat × Nat × Nat} {P P' P'' : List Nat} {E : sgE} {N N' N'' : sgN} {S S' S'' : sgS} {M : sgM} {C C' C'' : sgC} {O : sgO} {L L' L'' : sgL} {t n kc kr dp x g s' : Nat} {v y : Int32}
theorem gv_set (hv : gv (K, P, E, N, S, M, C, O, L)) (h1 : x < 512 → x < 256 ∨ ∃ q, q ≤ 15 ∧ v = nI q) (h2 : 512 ≤ x → x < 768 + N.2.2 ∧ mv M.2.2.2.2.1 v) : gv (K, P, E, N, stS S x v g s', M, C, O, L) := by
  obtain ⟨g1, g2, g3, ⟨s1, s2, s3, s4⟩, g5, g6, g7, g8⟩ := gv_d hv
  refine ⟨g1, g2, g3, ⟨s1, fun l c hl hc => ?_, fun l z hl hz hz2 => ?_, fun l z hl hz hz2 => ?_⟩, g5, g6, g7, g8⟩
  · by_cases e : 256 + c = x
    · rw [e]
      rcases stS_at (S := S) (x := x) (v := v) (g := g) (s' := s') (l := l) with ⟨a, _⟩ | ⟨a, _⟩
      · rw [a, ← e]
        exact s2 l c hl hc
      · rw [a]
        rcases h1 (by omega) with hh | hh
        · omega
        · exact hh
    · rw [stS_ne e]
      exact s2 l c hl hc
  · by_cases e : z = x
    · rw [e]
      rcases stS_at (S := S) (x := x) (v := v) (g := g) (s' := s') (l := l) with ⟨a, _⟩ | ⟨a, _⟩
      · rw [a, ← e]
        exact s3 l z hl hz hz2
      · rw [a]
        exact (h2 (by omega)).2
    · rw [stS_ne e]
      exact s3 l z hl hz hz2
  · have e : z ≠ x := by
      intro e
      by_cases hx : 512 ≤ x
      · have h3 := (h2 hx).1
        have hz' : 768 + N.2.2 ≤ z := hz
        omega
      · have hz' : 768 + N.2.2 ≤ z := hz
        omega
    rw [stS_ne e]
    exact s4 l z hl hz hz2
/-- outside of all groups nothing is saved -/
theorem cq_98z (hR : mj_Rt mp_R Rf) (h : RC fb vb (K, P, E, N, S, M, C, O, L) I) (h0 : S.2.2.1 = 0) (hx : x < 1804) (hg : g = 0 ∨ g = 1) (hQ : ∀ I', RC fb vb (K, P, E, N, stS S x v g S.2.2.2, M, C, O, L) I' → Q (.inl none) (sh59, I', Lg, Rf, nc, ns)) : mj_call X mj_P (mj_bi X) (d + 1) 98 [.ref 9, .int (nI x), .int v, .int (nI g)] (sh59, I, Lg, Rf, nc, ns) Q := by
  have hr := mc_rf hR
  obtain ⟨hK, hP, hE, hN, ⟨Lv, sl, le, gs, ⟨hS, hS0⟩, hT⟩, hM, hC, hO, hL, hZ⟩ := rc_d h
  have ex : (nI x).toNatClampNeg = x := nI_clamp (by omega)
  have lx : Lv x = 0 := by
    have := hS.2.2.2.2.2.2.1.2.1 x
    omega
  have i12 : I 12 x = 0 := (hS.1 x hx).trans (by rw [lx]; rfl)
  have i98 : I 9 8 = 0 := hS.2.2.2.2.1.trans (by rw [h0]; rfl)
  have top : ∀ (I : Nat → Nat → Int32), st_T I Lv sl le gs S.2.2.1 S.2.2.2 S.2.2.1 = I 10 := by
    intro I
    unfold st_T lv_T lv_g
    rw [if_neg (Nat.lt_irrefl _), Nat.sub_self]
    rfl
  have fin : RC fb vb (K, P, E, N, stS S x v g S.2.2.2, M, C, O, L) (mj_up I 10 x v) := by
    refine ⟨hK, hP, hE, hN, ⟨Lv, sl, le, gs, ⟨hS, hS0⟩, fun l z hl hz => ?_⟩, hM, hC, hO, hL, hZ⟩
    have hl0 : l = S.2.2.1 := by
      have : l ≤ S.2.2.1 := hl
      omega
    subst hl0
    show st_T (mj_up I 10 x v) Lv sl le gs S.2.2.1 S.2.2.2 S.2.2.1 z = (if g = 0 ∧ S.2.2.1 ≠ S.2.2.1 then S.1 S.2.2.1 else ud (S.1 S.2.2.1) x v) z
    rw [top, if_neg (fun hh => hh.2 rfl), mj_up_row]
    have := hT S.2.2.1 z (Nat.le_refl _) hz
    rw [top] at this
    by_cases e : z = x
    · rw [e, ud_at, ud_at]
    · rw [ud_ne e, ud_ne e, this]
  have hid : mj_up I 12 x 0 = I := by
    have := mj_up_id (f := I) (a := 12) (j := x)
    rw [i12] at this
    exact this
  have l102 : mj_rn X (mj_hd []) (mj_call X mj_P (mj_bi X) d) mb_98 102 [some (.ref 9), some (.int (nI x)), some (.int v), none] [] (sh59, I, Lg, Rf, nc, ns) Q := by
    refine mj_blk rfl ?_
    simp +decide only [mjs_0, mjs_1, mjs_2, mjs_3, mjs_ble, true_and, Bool.false_eq_true, if_false, if_true, Nat.reduceAdd, Nat.reduceSub, Nat.reduceLeDiff, false_implies, true_implies, not_false_eq_true, not_true_eq_false, and_true, mc_sh, hr, mjs_up_at, mjs_up_c, mjs_up_f, ex]
    exact ⟨nI_in (by omega) (by decide), hQ _ fin⟩
  refine mj_enter (z := (4, [], mb_98)) (by decide) rfl rfl ?_
  refine mj_blk rfl ?_
  simp +decide only [mjs_0, mjs_1, mjs_2, mjs_3, mjs_ble, true_and, Bool.false_eq_true, if_false, if_true, Nat.reduceAdd, Nat.reduceSub, Nat.reduceLeDiff, false_implies, true_implies, not_false_eq_true, not_true_eq_false, and_true]
  rcases hg with rfl | rfl
  · simp +decide only [mjs_0, mjs_1, mjs_2, mjs_3, mjs_ble, true_and, Bool.false_eq_true, if_false, if_true, Nat.reduceAdd, Nat.reduceSub, Nat.reduceLeDiff, false_implies, true_implies, not_false_eq_true, not_true_eq_false, and_true]
    refine mj_blk rfl ?_
    simp +decide only [mjs_0, mjs_1, mjs_2, mjs_3, mjs_ble, true_and, Bool.false_eq_true, if_false, if_true, Nat.reduceAdd, Nat.reduceSub, Nat.reduceLeDiff, false_implies, true_implies, not_false_eq_true, not_true_eq_false, and_true, mc_sh, hr, mjs_up_at, mjs_up_c, mjs_up_f, ex, i12, i98]
    exact ⟨nI_in (by omega) (by decide), mj_nv l102⟩
  · simp +decide only [mjs_0, mjs_1, mjs_2, mjs_3, mjs_ble, true_and, Bool.false_eq_true, if_false, if_true, Nat.reduceAdd, Nat.reduceSub, Nat.reduceLeDiff, false_implies, true_implies, not_false_eq_true, not_true_eq_false, and_true]
    refine mj_blk rfl ?_
    simp +decide only [mjs_0, mjs_1, mjs_2, mjs_3, mjs_ble, true_and, Bool.false_eq_true, if_false, if_true, Nat.reduceAdd, Nat.reduceSub, Nat.reduceLeDiff, false_implies, true_implies, not_false_eq_true, not_true_eq_false, and_true, mc_sh, hr, mjs_up_at, mjs_up_c, mjs_up_f, ex, hid]
    exact ⟨nI_in (by omega) (by decide), mj_nv l102⟩
theorem cq_98 (hR : mj_Rt mp_R Rf) (h : RC fb vb (K, P, E, N, S, M, C, O, L) I) (hs : S.2.2.2 ≤ 30000) (hx : x < 1804) (hg : g = 0 ∨ g = 1) (hQ : ∀ I' s', s' ≤ S.2.2.2 + 1 → RC fb vb (K, P, E, N, stS S x v g s', M, C, O, L) I' → Q (.inl none) (sh59, I', Lg, Rf, nc, ns)) : mj_call X mj_P (mj_bi X) (d + 1) 98 [.ref 9, .int (nI x), .int v, .int (nI g)] (sh59, I, Lg, Rf, nc, ns) Q := by
  by_cases h0 : S.2.2.1 = 0
  · exact cq_98z hR h h0 hx hg (fun I' c1 => hQ I' S.2.2.2 (Nat.le_succ _) c1)
  obtain ⟨hK, hP, hE, hN, ⟨Lv, sl, le, gs, ⟨hS, hS0⟩, hT⟩, hM, hC, hO, hL, hZ⟩ := rc_d h
  refine c_98 hR hS hs hx hg (fun I' Lv' sl' le' s' a1 a2 a3 a4 a5 a6 => hQ I' s' a2 ?_)
  have e3 : ∀ b q, mxm [9, 10, 12, 13, 14, 15, 16] b = false → I' b q = I b q := fun b q hb => a3 b q (mxm_ne hb (by decide)) (mxm_ne hb (by decide)) (mxm_ne hb (by decide)) (mxm_ne hb (by decide)) (mxm_ne hb (by decide))
  have hS1 : lv_g gs S.2.2.1 s' 0 = 0 := by
    unfold lv_g at hS0 ⊢
    rw [if_pos (by omega)] at hS0 ⊢
    exact hS0
  have top : ∀ (I : Nat → Nat → Int32) (Lv sl le : Nat → Nat) (s : Nat), st_T I Lv sl le gs S.2.2.1 s S.2.2.1 = I 10 := by
    intro I Lv sl le s
    unfold st_T lv_T lv_g
    rw [if_neg (Nat.lt_irrefl _), Nat.sub_self]
    rfl
  refine mx_on (RC fb vb (K, P, E, N, stS S x v g s', M, C, O, L)) [9, 10, 12, 13, 14, 15, 16] e3 ?_
  refine ⟨hK, hP, hE, hN, ⟨Lv', sl', le', gs, ⟨a1, hS1⟩, fun l z hl hz => ?_⟩, hM, hC, hO, hL, hZ⟩
  show st_T I' Lv' sl' le' gs S.2.2.1 s' l z = (if g = 0 ∧ l ≠ S.2.2.1 then S.1 l else ud (S.1 l) x v) z
  have hz0 : ∀ l, l ≤ S.2.2.1 → st_T I Lv sl le gs S.2.2.1 S.2.2.2 l z = S.1 l z := fun l hl => hT l z hl hz
  have hud : ∀ f f' : Nat → Int32, f z = f' z → ud f x v z = ud f' x v z := fun f f' hh => by
    by_cases e : z = x
    · rw [e, ud_at, ud_at]
    · rw [ud_ne e, ud_ne e, hh]
  by_cases e : l = S.2.2.1
  · subst e
    rw [if_neg (fun hh => hh.2 rfl), top, a5]
    refine hud _ _ ?_
    rw [← top I Lv sl le S.2.2.2]
    exact hz0 _ (Nat.le_refl _)
  · rw [a6 l (by have : l ≤ S.2.2.1 := hl; omega)]
    rcases hg with rfl | rfl
    · rw [if_pos rfl, if_pos ⟨rfl, e⟩]
      exact hz0 l hl
    · rw [if_neg (by decide), if_neg (fun hh => absurd hh.1 (by decide))]
      exact hud _ _ (hz0 l hl)
theorem rq_128 (hM' : mj_Rt mm_R Rf) (h : RR H (K, P, E, N, S, M, C, O, L) J) (hv : gv (K, P, E, N, S, M, C, O, L)) (ht : tb N.2.2 t) (ht2 : 3328 ≤ t) (hw : mw M (J 48) (J 49) (J 50) (J 51) v y) (hg : g = 0 ∨ g = 1) (hQ : ∀ J' : Nat → Nat → Int32, (∀ s', RR H (K, P, E, N, stS S (cm_sl t) v g s', M, C, O, L) J') → Q (.inl none) (sh59, J', Lg, Rf, nc, ns)) : mj_call X mj_P (mj_bi X) (d + 3) 128 [.ref 36, .int (nI (rt t)), .int y, .int (nI g)] (sh59, J, Lg, Rf, nc, ns) Q := by
  have hk : N.2.2 ≤ 1036 := (gv_d hv).2.2.1.2.1
  have hk1 : 36 ≤ N.2.2 := (gv_d hv).2.2.1.1
  have htl := tb_lt hk ht
  have ert := rt_tb hk ht
  have rl := rb_lt hk hk1 ht
  obtain ⟨hK, hP, hE, hN, hS, hM, hC, hO, hL, hZ⟩ := rr_d h
  have hba : mr_ba (rt t) = rb t := by
    unfold mr_ba
    rw [ert, if_neg (by omega)]
  have hlv : S.2.2.1 ≤ 100 := hS.2.2.2.2
  -- the slot and the place
  have slot : (∃ c, c < 256 ∧ cm_sl t = 512 + c ∧ mr_id (rb t) = 1100 + c) ∨ ∃ i, i < N.2.2 ∧ cm_sl t = 768 + i ∧ mr_id (rb t) = rp i := by
    unfold tb at ht
    by_cases hc : t < 3584
    · refine Or.inl ⟨t - 3328, by omega, ?_, ?_⟩
      · unfold cm_sl
        rw [if_neg (by omega)]
        omega
      · unfold mr_id rb
        rw [if_neg (show ¬ t < 3328 by omega), if_pos hc, if_pos (by omega)]
        omega
    · have hr1 := rp_lt (i := t - 65536) (k := 1036) (by omega) (by decide)
      refine Or.inr ⟨t - 65536, by omega, ?_, ?_⟩
      · unfold cm_sl
        rw [if_pos (by omega)]
        omega
      · unfold mr_id rb
        rw [if_neg (show ¬ t < 3328 by omega), if_neg hc, if_neg (show ¬ 2097152 ≤ t by omega), if_neg (by omega)]
        omega
  have hid : mr_id (rb t) < 1400 := by
    rcases slot with ⟨c, c1, _, c2⟩ | ⟨i, i1, _, i2⟩
    · omega
    · have := rp_lt i1 hk1
      omega
  refine r_128 (mm_W hM') (by rw [ert]; omega) (by rw [hba]; exact rl.2.2.2.1 ht2) (by rw [hba]; exact hid) hS.1 hlv hg (fun J' hs => hQ J' (fun s' => ?_))
  rw [hba] at hs
  obtain ⟨b1, b2, b3⟩ := hs
  -- the new rows against the new table
  have key : ∀ l z q, l ≤ S.2.2.1 → q < 1400 → (z = cm_sl t ↔ q = mr_id (rb t)) → mw M (J 48) (J 49) (J 50) (J 51) (S.1 l z) (J 45 (1400 * l + q)) → mw M (J 48) (J 49) (J 50) (J 51) ((stS S (cm_sl t) v g s').1 l z) (J' 45 (1400 * l + q)) := by
    intro l z q hl hq hzq hold
    by_cases e : z = cm_sl t
    · have eq := hzq.mp e
      rcases stS_at (S := S) (x := cm_sl t) (v := v) (g := g) (s' := s') (l := l) with ⟨a, ⟨g0, ln⟩⟩ | ⟨a, hno⟩
      · rw [e, a, ← e, b3 _ (fun l' h1 h2 => by rw [if_pos g0] at h1; omega)]
        exact hold
      · rw [e, a, eq, b2 l (by
          by_cases g0 : g = 0
          · rw [if_pos g0]
            have : l = S.2.2.1 := by
              by_cases el : l = S.2.2.1
              · exact el
              · exact absurd ⟨g0, el⟩ hno
            omega
          · rw [if_neg g0]
            omega) (by omega)]
        exact hw
    · rw [stS_ne e, b3 _ (fun l' h1 h2 hh => e (hzq.mpr (by omega)))]
      exact hold
  have e3 : ∀ b q, mxm [45] b = false → J' b q = J b q := fun b q hb => b1 b q (mxm_ne hb (by decide))
  refine mx_on (RR H (K, P, E, N, stS S (cm_sl t) v g s', M, C, O, L)) [45] e3 ?_
  have sl512 : 512 ≤ cm_sl t := by
    rcases slot with ⟨c, c1, c2, _⟩ | ⟨i, i1, i2, _⟩ <;> omega
  refine ⟨hK, hP, hE, hN, ⟨hS.1, hS.2.1, fun l c hl hc => ?_, fun l i hl hi => ?_, hlv⟩, hM, hC, hO, hL, fun c hc => (mx_z hc rfl).trans (hZ c hc)⟩
  · obtain ⟨s1, s2, s3⟩ := hS.2.2.1 l c hl hc
    rw [stS_ne (show c ≠ cm_sl t by omega), stS_ne (show 256 + c ≠ cm_sl t by omega)]
    refine ⟨s1, s2, key l (512 + c) (1100 + c) hl (by omega) ?_ s3⟩
    rcases slot with ⟨c', c1, c2, c3⟩ | ⟨i, i1, i2, i3⟩
    · omega
    · have := rp_lt i1 hk1
      omega
  · have hi' : i < N.2.2 := hi
    have hri := rp_lt hi' hk1
    refine key l (768 + i) (rp i) hl (by omega) ?_ (hS.2.2.2.1 l i hl hi)
    rcases slot with ⟨c', c1, c2, c3⟩ | ⟨j, j1, j2, j3⟩
    · omega
    · rw [j2, j3]
      constructor
      · intro e
        rw [show i = j by omega]
      · intro e
        rw [rp_inj e]
end MJSS
