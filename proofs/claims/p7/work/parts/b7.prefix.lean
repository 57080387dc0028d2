/-! PREFIXED, in both -/
section MJPF
variable {X : mj_X} {d nc ns : Nat} {Q : mj_Q} {I I' J J' H : Nat → Nat → Int32} {Lg : Nat → Nat → Int64} {Rf : Nat → Nat → Option Nat} {fb fb' : Nat → Nat → Int32} {vb : Nat → Int32} {K K' K'' : Nat × Nat × Nat} {P P' P'' : List Nat} {E : sgE} {N N' N'' : sgN} {S S' S'' : sgS} {M : sgM} {C C' C'' : sgC} {O : sgO} {L L' L'' : sgL} {t n kc kr c gl : Nat}
/-- all assignments without a prefix -/
theorem a_all (hR : mj_Rt mp_R Rf) (hM' : mj_Rt mm_R Rf) (hX : XD X Rf vb kc kr n) (hN : NU X Rf vb kc kr n) {n' kc' kr' : Nat} (hN' : NU X Rf vb kc' kr' n') (h12 : 12 ≤ kr) {D : Nat} (hD : kc + 8 ≤ D) (hD' : kc' + 8 ≤ D) (hn : K.2.2 + n = 40) (hn' : K.2.2 + 1 + n' = 40) (hr' : nc + 1 ≤ X.2.2.1 ∧ ns + 6 ≤ X.2.2.2) (hv : gv (K, P, E, N, S, M, C, O, L)) (hw : gw K S) (hs : S.2.2.2 + 1 ≤ K.1) (hrm : M.2.2.2.2.2 + 1 ≤ K.1) (hst : M.2.1 M.2.2.2.2.1 = M.2.2.2.1) (hg : gl = 0 ∨ gl = 1) (hp : P.length ≤ 10000) (h : RC fb vb (K, P, E, N, S, M, C, O, L) I) (hc : 25 ≤ c ∧ c ≤ 35)
    (hQ1 : TQ1 X Rf vb (kr + 8) 168 [.ref 36, .int (nI (c - 2)), .int (nI gl)] K P E N S M C O L Lg nc ns Q)
    (hQ3 : TQ3 X Rf vb (kr + 8) 168 [.ref 36, .int (nI (c - 2)), .int (nI gl)] (K, P, E, N, S, M, C, O, L) Lg nc ns Q) :
    mj_rn X (mj_hd []) (mj_call X mj_P (mj_bi X) D) mb_64 24 [some (.ref 34), none, some (.int (nI gl)), none, none] [.int (nI c)] (sh59, I, Lg, Rf, nc, ns) Q := by
  have : c = 25 ∨ c = 26 ∨ c = 27 ∨ c = 28 ∨ c = 29 ∨ c = 30 ∨ c = 31 ∨ c = 32 ∨ c = 33 ∨ c = 34 ∨ c = 35 := by omega
  rcases this with rfl | rfl | rfl | rfl | rfl | rfl | rfl | rfl | rfl | rfl | rfl
  · exact a_def hR hM' hX hN hN' h12 hD hD' hn hn' hr' hv hw hs hrm hst hg hp h hQ1 hQ3
  · exact a_edef hR hM' hX hN hN' h12 hD hD' hn hn' hr' hv hw hs hrm hst hg hp h hQ1 hQ3
  · exact a_gdef hR hM' hX hN hN' h12 hD hD' hn hn' hr' hv hw hs hrm hst hg hp h hQ1 hQ3
  · exact a_xdef hR hM' hX hN hN' h12 hD hD' hn hn' hr' hv hw hs hrm hst hg hp h hQ1 hQ3
  · exact a_let hR hM' hX hN hN' h12 hD hD' hn hn' hr' hv hw hs hrm hst hg hp h hQ1 hQ3
  · exact a_chardef hR hM' hX hN hN' h12 hD hD' hn hn' hr' hv hw hs hrm hst hg hp h hQ1 hQ3
  · exact a_count hR hM' hX hN hN' h12 hD hD' hn hn' hr' hv hw hs hrm hst hg hp h hQ1 hQ3
  · exact a_catcode hR hM' hX hN hN' h12 hD hD' hn hn' hr' hv hw hs hrm hst hg hp h hQ1 hQ3
  · exact a_advance hR hM' hX hN hN' h12 hD hD' hn hn' hr' hv hw hs hrm hst hg hp h hQ1 hQ3
  · exact a_multiply hR hM' hX hN hN' h12 hD hD' hn hn' hr' hv hw hs hrm hst hg hp h hQ1 hQ3
  · exact a_divide hR hM' hX hN hN' h12 hD hD' hn hn' hr' hv hw hs hrm hst hg hp h hQ1 hQ3
/-- expandedBehindSpaces against a loop of the reference's own, at the end of the text a fault -/
theorem p_23n (hR : mj_Rt mp_R Rf) (hX : XD X Rf vb kc kr n) {T : List mj_B} {k p : Nat} {lv : Int32 → mj_LV} {pc0 : Nat} {lv0 : mj_LV} {o : Option Value} {g0 : sg}
    (hs : ∀ (g g' : sg) (k' t : Nat) (x : Int32), k' ≤ 1036 → 36 ≤ k' → tv k' t → t / 256 = 10 → RX X Rf (kr + 1) 130 [.ref 36] g na (some (.int x)) g' na → RM X Rf T k p (lv (nI (rt t))) [] g na p (lv x) [] g' na)
    (hf : ∀ (g g' : sg) (k' t : Nat), k' ≤ 1036 → 36 ≤ k' → tv k' t → t / 256 = 10 → RY X Rf (kr + 1) 130 [.ref 36] g na (some (.int (-1))) g' → RMf X Rf T k p (lv (nI (rt t))) [] g na o g')
    {D : Nat} (hD : kc + 4 ≤ D) (hn : K.2.2 + n = 40) (hr' : nc + 1 ≤ X.2.2.1 ∧ ns + 6 ≤ X.2.2.2) (hv : gv (K, P, E, N, S, M, C, O, L)) (hw : gw K S) (hp : P.length ≤ 10000) (h : RC fb vb (K, P, E, N, S, M, C, O, L) I)
    (h0s : ∀ (g' : sg) (x : Int32), RX X Rf (kr + 1) 130 [.ref 36] (K, P, E, N, S, M, C, O, L) na (some (.int x)) g' na → RM X Rf T k pc0 lv0 [] g0 na p (lv x) [] g' na)
    (h0f : ∀ (g' : sg), RY X Rf (kr + 1) 130 [.ref 36] (K, P, E, N, S, M, C, O, L) na (some (.int (-1))) g' → RMf X Rf T k pc0 lv0 [] g0 na o g')
    (hQ1 : ∀ fb' K' P' N' S' C' L' I' t, gv (K', P', E, N', S', M, C', O, L') → RC fb' vb (K', P', E, N', S', M, C', O, L') I' → P'.length ≤ 9999 → xs K P N S C L K' P' N' S' C' L' → mu K' P' L' < mu K P L → tv N'.2.2 t → ¬ gx S' t → t / 256 ≠ 10 → RM X Rf T k pc0 lv0 [] g0 na p (lv (nI (rt t))) [] (K', P', E, N', S', M, C', O, L') na → Q (.inl (some (.int (nI t)))) (sh59, I', Lg, Rf, nc, ns))
    (hQ3 : ∀ g' I', RCf fb vb g' I' → RMf X Rf T k pc0 lv0 [] g0 na o g' → Q (.inr 500) (sh59, I', Lg, Rf, nc + 1, ns + 6)) :
    mj_call X mj_P (mj_bi X) D 23 [.ref 28] (sh59, I, Lg, Rf, nc, ns) Q := by
  have hr := mc_rf hR
  obtain ⟨d, rfl⟩ : ∃ d, D = d + 4 := ⟨D - 4, by omega⟩
  have k5 := (rc_d h).1.2.2.2
  have hmu0 := mu_le (K := K) (P := P) (L := L) k5.2.1 hp (tl_le (gv_d hv).2.2.2.2.2.2.2)
  have loop : ∀ (m i t : Nat) (fb' : Nat → Nat → Int32) (K' : Nat × Nat × Nat) (P' : List Nat) (N' : sgN) (S' : sgS) (C' : sgC) (L' : sgL) (I' : Nat → Nat → Int32), mu K' P' L' ≤ m → i + m ≤ 700000000 → gv (K', P', E, N', S', M, C', O, L') → RC fb' vb (K', P', E, N', S', M, C', O, L') I' → P'.length ≤ 9999 → xs K P N S C L K' P' N' S' C' L' → mu K' P' L' < mu K P L → tv N'.2.2 t → ¬ gx S' t → RM X Rf T k pc0 lv0 [] g0 na p (lv (nI (rt t))) [] (K', P', E, N', S', M, C', O, L') na → mj_rn X (mj_hd []) (mj_call X mj_P (mj_bi X) (d + 3)) mb_23 8 [some (.ref 28), some (.int (nI t)), some (.int (nI i))] [] (sh59, I', Lg, Rf, nc, ns) Q := by
    intro m
    induction m using Nat.strongRecOn with
    | ind m ih =>
      intro i t fb' K' P' N' S' C' L' I' b1 b2 hv' h' hp' hx hmu ht hgx hM
      have hk : N'.2.2 ≤ 1036 := (gv_d hv').2.2.1.2.1
      have hk1 : 36 ≤ N'.2.2 := (gv_d hv').2.2.1.1
      have htl := tv_lt hk ht
      have hgw := gw_xs hw hx
      have hK2 := hx.2.1.2
      refine mj_blk rfl ?_
      simp +decide only [mjs_0, mjs_1, mjs_2, mjs_3, mjs_ble, true_and, Bool.false_eq_true, if_false, if_true, Nat.reduceAdd, Nat.reduceSub, Nat.reduceLeDiff, false_implies, true_implies, not_false_eq_true, not_true_eq_false, and_true]
      refine ⟨fun q => absurd q (nI_ge (a := i) (b := 1000000000) (by omega) (by decide)), fun _ => mj_blk rfl ?_⟩
      simp +decide only [mjs_0, mjs_1, mjs_2, mjs_3, mjs_ble, true_and, Bool.false_eq_true, if_false, if_true, Nat.reduceAdd, Nat.reduceSub, Nat.reduceLeDiff, false_implies, true_implies, not_false_eq_true, not_true_eq_false, and_true]
      refine c_190 (by omega) ?_
      by_cases e : t / 256 = 10
      · rw [if_pos e]
        simp +decide only [mjs_0, mjs_1, mjs_2, mjs_3, mjs_ble, true_and, Bool.false_eq_true, if_false, if_true, Nat.reduceAdd, Nat.reduceSub, Nat.reduceLeDiff, false_implies, true_implies, not_false_eq_true, not_true_eq_false, and_true]
        refine mj_blk rfl ?_
        simp +decide only [mjs_0, mjs_1, mjs_2, mjs_3, mjs_ble, true_and, Bool.false_eq_true, if_false, if_true, Nat.reduceAdd, Nat.reduceSub, Nat.reduceLeDiff, false_implies, true_implies, not_false_eq_true, not_true_eq_false, and_true, mc_sh]
        refine xd_n hX (by omega) (by rw [hK2]; exact hn) hr' hv' hgw (by omega) h' (fun fb2 K2 P2 N2 S2 C2 L2 I2 t2 a1 a2 a3 a4 a5 a6 a7 a8 => ?_) (fun g2 I2 a1 a2 => ?_)
        · simp +decide only [mjs_0, mjs_1, mjs_2, mjs_3, mjs_ble, true_and, Bool.false_eq_true, if_false, if_true, Nat.reduceAdd, Nat.reduceSub, Nat.reduceLeDiff, false_implies, true_implies, not_false_eq_true, not_true_eq_false, and_true, nI_1]
          exact mj_nv (ih (mu K2 P2 L2) (by omega) (i + 1) t2 fb2 K2 P2 N2 S2 C2 L2 I2 (Nat.le_refl _) (by omega) a1 a2 a3 (xs_tr hx a4) (by omega) a6 a7 (rm_tr hM (hs _ _ _ t _ hk hk1 ht e a8)))
        · simp +decide only [mjs_0, mjs_1, mjs_2, mjs_3, mjs_ble, true_and, Bool.false_eq_true, if_false, if_true, Nat.reduceAdd, Nat.reduceSub, Nat.reduceLeDiff, false_implies, true_implies, not_false_eq_true, not_true_eq_false, and_true]
          exact hQ3 g2 I2 a1 (rm_f hM (hf _ _ _ t hk hk1 ht e a2))
      · rw [if_neg e]
        simp +decide only [mjs_0, mjs_1, mjs_2, mjs_3, mjs_ble, true_and, Bool.false_eq_true, if_false, if_true, Nat.reduceAdd, Nat.reduceSub, Nat.reduceLeDiff, false_implies, true_implies, not_false_eq_true, not_true_eq_false, and_true]
        refine mj_blk rfl ?_
        simp +decide only [mjs_0, mjs_1, mjs_2, mjs_3, mjs_ble, true_and, Bool.false_eq_true, if_false, if_true, Nat.reduceAdd, Nat.reduceSub, Nat.reduceLeDiff, false_implies, true_implies, not_false_eq_true, not_true_eq_false, and_true]
        exact hQ1 fb' K' P' N' S' C' L' I' t hv' h' hp' hx hmu ht hgx e hM
  refine mj_enter (z := (3, [], mb_23)) (by decide) rfl rfl ?_
  refine mj_blk rfl ?_
  simp +decide only [mjs_0, mjs_1, mjs_2, mjs_3, mjs_ble, true_and, Bool.false_eq_true, if_false, if_true, Nat.reduceAdd, Nat.reduceSub, Nat.reduceLeDiff, false_implies, true_implies, not_false_eq_true, not_true_eq_false, and_true, mc_sh, hr, mjs_up_at, mjs_up_c, mjs_up_f]
  refine xd_n hX (by omega) hn hr' hv hw hp h (fun fb2 K2 P2 N2 S2 C2 L2 I2 t2 a1 a2 a3 a4 a5 a6 a7 a8 => ?_) (fun g2 I2 a1 a2 => ?_)
  · simp +decide only [mjs_0, mjs_1, mjs_2, mjs_3, mjs_ble, true_and, Bool.false_eq_true, if_false, if_true, Nat.reduceAdd, Nat.reduceSub, Nat.reduceLeDiff, false_implies, true_implies, not_false_eq_true, not_true_eq_false, and_true]
    exact mj_nv (loop (mu K2 P2 L2) 0 t2 fb2 K2 P2 N2 S2 C2 L2 I2 (Nat.le_refl _) (by omega) a1 a2 a3 a4 a5 a6 a7 (h0s _ _ a8))
  · simp +decide only [mjs_0, mjs_1, mjs_2, mjs_3, mjs_ble, true_and, Bool.false_eq_true, if_false, if_true, Nat.reduceAdd, Nat.reduceSub, Nat.reduceLeDiff, false_implies, true_implies, not_false_eq_true, not_true_eq_false, and_true]
    exact hQ3 g2 I2 a1 (h0f _ a2)
/-- primitives' numbers in the reference, at the top -/
theorem rr_pn (h : RR H (K, P, E, N, S, M, C, O, L) J) (hv : gv (K, P, E, N, S, M, C, O, L)) (ht : tv N.2.2 t) : (gp S t = 36 → mr_me J 36 S.2.2.1 (rt t) - 1000 = 34) ∧ (25 ≤ gp S t → gp S t ≤ 35 → mr_me J 36 S.2.2.1 (rt t) - 1000 = nI (gp S t - 2)) ∧ (gp S t < 25 → ¬ mr_me J 36 S.2.2.1 (rt t) - 1000 = 34 ∧ (mr_me J 36 S.2.2.1 (rt t) - 1000 < 23 ∨ ¬ mr_me J 36 S.2.2.1 (rt t) - 1000 ≤ 33)) := by
  have me := (rr_me h hv ht).1
  have hM := (gv_d hv).2.2.2.2.1
  have hl := gm_lt hv ht
  have hmade := gvM_made hM
  have big : ∀ f : Nat, 1034 < f → f < 2 ^ 31 → ¬ nI f - 1000 = 34 ∧ ¬ nI f - 1000 ≤ 33 := by
    intro f f1 f2
    rw [show (1000 : Int32) = nI 1000 from rfl, pk_sub (by omega)]
    exact ⟨fun q => absurd ((nI_eq (b := 34) (by omega) (by decide)).mp q) (by omega), fun q => absurd ((nI_leI (b := 33) (by omega) (by decide)).mp q) (by omega)⟩
  rcases mw_n hM (by omega) me with ⟨z, y⟩ | ⟨p, p1, p2, z, y⟩ | ⟨a, b, z, b1, y, hq⟩ | ⟨c, c1, z, y⟩ | ⟨m, m1, z, y⟩
  · have e : gp S t = 0 := by
      unfold gp
      rw [if_neg (by omega)]
    rw [e, y]
    exact ⟨fun q => absurd q (by decide), fun q => absurd q (by decide), fun _ => ⟨by decide, Or.inl (by decide)⟩⟩
  · have e : gp S t = p := by
      unfold gp
      rw [if_pos (by omega)]
      omega
    have hs : nI (1000 + rp (p - 1)) - 1000 = nI (rp (p - 1)) := by
      rw [show (1000 : Int32) = nI 1000 from rfl, pk_sub (by omega)]
      exact congrArg nI (by omega)
    have hrp := rp_lt (i := p - 1) (k := 36) (by omega) (by decide)
    rw [e, y, hs]
    refine ⟨fun q => ?_, fun q1 q2 => ?_, fun q => ?_⟩
    · subst q
      rfl
    · unfold rp
      rw [if_neg (by omega), if_pos (by omega)]
      exact congrArg nI (by omega)
    · by_cases e24 : p = 24
      · subst e24
        decide
      · have : rp (p - 1) = p - 1 := by
          unfold rp
          rw [if_neg (by omega), if_neg (by omega)]
        rw [this]
        exact ⟨fun q' => absurd ((nI_eq (b := 34) (by omega) (by decide)).mp q') (by omega), Or.inl (nI_lt (b := 23) (by omega) (by decide))⟩
  · have ha : a < 10002 := by
      have := hq.1
      omega
    have e : gp S t = 0 := by
      unfold gp
      rw [if_neg (by omega)]
    rw [e, y]
    have := big (100000 + b) (by omega) (by omega)
    exact ⟨fun q => absurd q (by decide), fun q => absurd q (by decide), fun _ => ⟨this.1, Or.inr this.2⟩⟩
  · have e : gp S t = 0 := by
      unfold gp
      rw [if_neg (by omega)]
    rw [e, y]
    have := big (2000000 + c) (by omega) (by omega)
    exact ⟨fun q => absurd q (by decide), fun q => absurd q (by decide), fun _ => ⟨this.1, Or.inr this.2⟩⟩
  · have e : gp S t = 0 := by
      unfold gp
      rw [if_neg (by omega)]
    rw [e, y]
    have := big (3000000 + m) (by omega) (by omega)
    exact ⟨fun q => absurd q (by decide), fun q => absurd q (by decide), fun _ => ⟨this.1, Or.inr this.2⟩⟩
end MJPF
