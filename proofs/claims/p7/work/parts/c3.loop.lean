/-! THE LOOP OF A RUN, in both -/
section MJLP
variable {X : mj_X} {nc ns : Nat} {Lg : Nat → Nat → Int64} {Rf : Nat → Nat → Option Nat} {vb : Nat → Int32} {kc kr kc' kr' D : Nat}
theorem l_run (hR : mj_Rt mp_R Rf) (hM' : mj_Rt mm_R Rf) (hX : XD X Rf vb kc kr 40) (hN : NU X Rf vb kc kr 40) (hN' : NU X Rf vb kc' kr' 39) (h12 : 12 ≤ kr) (hD : kc + 9 ≤ D) (hD' : kc' + 9 ≤ D) (hr' : nc + 1 ≤ X.2.2.1 ∧ ns + 6 ≤ X.2.2.2) :
    ∀ (m i : Nat) (fb : Nat → Nat → Int32) (K : Nat × Nat × Nat) (P : List Nat) (E : sgE) (N : sgN) (S : sgS) (M : sgM) (C : sgC) (O : sgO) (L : sgL) (w1 w4 w5 : Option Value) (I : Nat → Nat → Int32) (Q : mj_Q), K.2.1 - K.1 ≤ m → i ≤ K.1 → K.2.2 = 0 → gv (K, P, E, N, S, M, C, O, L) → gw K S → (∀ l, l < S.2.2.1 → S.2.1 l ≤ 1) → M.2.2.2.2.2 ≤ K.1 → M.2.1 M.2.2.2.2.1 = M.2.2.2.1 → P.length ≤ 10000 → RC fb vb (K, P, E, N, S, M, C, O, L) I →
      (∀ I' v tk O' cn nc' ns', nc' ≤ nc + 1 → ns' ≤ ns + 6 → IDC vb tk 0 (fun _ => 0) O' cn I' → RE X Rf (kr + 20) (K, P, E, N, S, M, C, O, L) tk O' cn → Q (.inl (some (.int v))) (sh59, I', Lg, Rf, nc', ns')) →
      mj_rn X (mj_hd [(11, 117, 120, 500, 3, 121)]) (mj_call X mj_P (mj_bi X) D) mb_2 13 [some (.ref 0), w1, some (.int 0), some (.int (nI i)), w4, w5] [] (sh59, I, Lg, Rf, nc, ns) Q := by
  have hr := mc_rf hR
  obtain ⟨D, rfl⟩ : ∃ D2, D = D2 + 9 := ⟨D - 9, by omega⟩
  intro m
  induction m using Nat.strongRecOn with
  | ind m ih =>
    intro i fb K P E N S M C O L w1 w4 w5 I Q hm1 hi h0 hv hw hk hmr hst hp h hQ
    have k5 := (rc_d h).1.2.2.2
    have flt : ∀ (g' : sg) (I' : Nat → Nat → Int32) (w1 w4 w5 : Option Value), RCf fb vb g' I' → RE X Rf (kr + 20) (K, P, E, N, S, M, C, O, L) g'.1.1 g'.2.2.2.2.2.2.2.1 (g'.2.2.2.2.1.1 0) → mj_rn X (mj_hd [(11, 117, 120, 500, 3, 121)]) (mj_call X mj_P (mj_bi X) (D + 9)) mb_2 121 [some (.ref 0), w1, some (.int 0), none, w4, w5] [] (sh59, I', Lg, Rf, nc + 1, ns + 6) Q := fun g' I' w1 w4 w5 a b => ct_121 (f := 0) hR a (fun I2 v c => hQ I2 v _ _ _ _ _ (Nat.le_refl _) (Nat.le_refl _) c b)
    refine mj_blk rfl ?_
    simp +decide only [mjs_0, mjs_1, mjs_2, mjs_3, mjs_ble, true_and, Bool.false_eq_true, if_false, if_true, Nat.reduceAdd, Nat.reduceSub, Nat.reduceLeDiff, false_implies, true_implies, not_false_eq_true, not_true_eq_false, and_true]
    refine ⟨fun q => absurd ((nI_ltI (a := 30000) (b := i) (by decide) (by omega)).mp q) (by omega), fun _ => mj_blk rfl ?_⟩
    simp +decide only [mjs_0, mjs_1, mjs_2, mjs_3, mjs_ble, true_and, Bool.false_eq_true, if_false, if_true, Nat.reduceAdd, Nat.reduceSub, Nat.reduceLeDiff, false_implies, true_implies, not_false_eq_true, not_true_eq_false, and_true, mc_sh, hr, mjs_up_at, mjs_up_c, mjs_up_f]
    refine xd_e hX (by omega) (by omega) hr' hv hw hp h (fun fb' K' P' N' S' C' L' I' o a1 a2 a3 a4 a5 a6 a7 a8 a9 => ?_) (fun g' I' a1 a2 => ?_)
    · have hw' := gw_xs hw a4
      have hK2 := a4.2.1
      have hsx := a4.2.2.2.2.1
      have k5' := (rc_d a2).1.2.2.2
      cases o with
      | none =>
        simp +decide only [mjs_0, mjs_1, mjs_2, mjs_3, mjs_ble, true_and, Bool.false_eq_true, if_false, if_true, Nat.reduceAdd, Nat.reduceSub, Nat.reduceLeDiff, false_implies, true_implies, not_false_eq_true, not_true_eq_false, and_true, tkI]
        refine mj_blk rfl ?_
        simp +decide only [mjs_0, mjs_1, mjs_2, mjs_3, mjs_ble, true_and, Bool.false_eq_true, if_false, if_true, Nat.reduceAdd, Nat.reduceSub, Nat.reduceLeDiff, false_implies, true_implies, not_false_eq_true, not_true_eq_false, and_true]
        exact mj_nv (ct_87 (w1 := w1) (w3 := none) (w4 := none) (w5 := w5) hR hr' a1 a2 (fun I2 v nc' ns' b1 b2 b3 => hQ I2 v _ _ _ nc' ns' b1 b2 b3 (re_e hM' a9)))
      | some t =>
        have ht := a6 t rfl
        have hgx := a8 t rfl
        have hkk : N'.2.2 ≤ 1036 := (gv_d a1).2.2.1.2.1
        have hkk1 : 36 ≤ N'.2.2 := (gv_d a1).2.2.1.1
        have htl := tv_lt hkk ht
        have hrl := rt_lt hkk hkk1 ht
        have hne : ¬ nI t = -1 := fun e => absurd (nI_pos (show t < 2 ^ 31 by omega)) (by rw [e]; decide)
        simp +decide only [mjs_0, mjs_1, mjs_2, mjs_3, mjs_ble, true_and, Bool.false_eq_true, if_false, if_true, Nat.reduceAdd, Nat.reduceSub, Nat.reduceLeDiff, false_implies, true_implies, not_false_eq_true, not_true_eq_false, and_true, tkI]
        refine ⟨fun _ => mj_blk rfl ?_, fun q => absurd hne q⟩
        simp +decide only [mjs_0, mjs_1, mjs_2, mjs_3, mjs_ble, true_and, Bool.false_eq_true, if_false, if_true, Nat.reduceAdd, Nat.reduceSub, Nat.reduceLeDiff, false_implies, true_implies, not_false_eq_true, not_true_eq_false, and_true, mc_sh, hr, mjs_up_at, mjs_up_c, mjs_up_f]
        refine cq_77 a2 a1 hr' (fun hlt I2 c1 => ?_) (fun heq I2 c1 => ?_)
        · have hv2 : gv ((K'.1 + 1, K'.2), P', E, N', S', M, C', O, L') := a1
          have hk5 : K'.1 < K'.2.1 ∧ K'.2.1 ≤ 30000 := ⟨hlt, k5'.2.1⟩
          have hw2 : gw (K'.1 + 1, K'.2) S' := ⟨Nat.le_succ_of_le hw'.1, hw'.2⟩
          have hk2 : ∀ l, l < S'.2.2.1 → S'.2.1 l ≤ 1 := fun l hl => by
            rw [hsx.2.2.1]
            exact hk l (by have := hsx.1; omega)
          simp +decide only [mjs_0, mjs_1, mjs_2, mjs_3, mjs_ble, true_and, Bool.false_eq_true, if_false, if_true, Nat.reduceAdd, Nat.reduceSub, Nat.reduceLeDiff, false_implies, true_implies, not_false_eq_true, not_true_eq_false, and_true, mc_sh, hr, mjs_up_at, mjs_up_c, mjs_up_f]
          refine p_59 hR hM' hr' hv2 hw2 hk2 c1 ht hgx (fun S2 O2 I3 d1 d2 d3 d4 d5 => ?_) (fun hgm => ?_) (fun c c25 c36 hgm => ?_) (fun g' I3 d1 d2 => ?_)
          · simp +decide only [mjs_0, mjs_1, mjs_2, mjs_3, mjs_ble, true_and, Bool.false_eq_true, if_false, if_true, Nat.reduceAdd, Nat.reduceSub, Nat.reduceLeDiff, false_implies, true_implies, not_false_eq_true, not_true_eq_false, and_true]
            refine mj_blk rfl ?_
            simp +decide only [mjs_0, mjs_1, mjs_2, mjs_3, mjs_ble, true_and, Bool.false_eq_true, if_false, if_true, Nat.reduceAdd, Nat.reduceSub, Nat.reduceLeDiff, false_implies, true_implies, not_false_eq_true, not_true_eq_false, and_true]
            refine mj_blk rfl ?_
            simp +decide only [mjs_0, mjs_1, mjs_2, mjs_3, mjs_ble, true_and, Bool.false_eq_true, if_false, if_true, Nat.reduceAdd, Nat.reduceSub, Nat.reduceLeDiff, false_implies, true_implies, not_false_eq_true, not_true_eq_false, and_true, nI_1]
            exact mj_nv (ih (K'.2.1 - (K'.1 + 1)) (by have := hK2.2; have e : K'.2.1 = K.2.1 := by rw [hK2.2]
                                                      omega) (i + 1) fb' (K'.1 + 1, K'.2) P' E N' S2 M C' O2 L' w1 none none I3 Q (Nat.le_refl _) (show i + 1 ≤ K'.1 + 1 by omega) (show K'.2.2 = 0 by rw [hK2.2]; exact h0) d1 d3 d4 (show M.2.2.2.2.2 ≤ K'.1 + 1 by omega) hst (by omega) d2 (fun I4 v tk O' cn nc' ns' b1 b2 b3 b4 => hQ I4 v tk O' cn nc' ns' b1 b2 b3 (re_0 hM' (by omega) hk5 a9 d5 b4)))
          · simp +decide only [mjs_0, mjs_1, mjs_2, mjs_3, mjs_ble, true_and, Bool.false_eq_true, if_false, if_true, Nat.reduceAdd, Nat.reduceSub, Nat.reduceLeDiff, false_implies, true_implies, not_false_eq_true, not_true_eq_false, and_true]
            refine mj_blk rfl ?_
            simp +decide only [mjs_0, mjs_1, mjs_2, mjs_3, mjs_ble, true_and, Bool.false_eq_true, if_false, if_true, Nat.reduceAdd, Nat.reduceSub, Nat.reduceLeDiff, false_implies, true_implies, not_false_eq_true, not_true_eq_false, and_true]
            exact mj_nv (ct_87 (w1 := w1) (w3 := none) (w4 := none) (w5 := none) hR hr' hv2 c1 (fun I2 v nc' ns' b1 b2 b3 => hQ I2 v _ _ _ nc' ns' b1 b2 b3 (re_n hM' hv2 ht (by omega) hk5 hgm a9)))
          · have q24 : ¬ nI c = 24 := fun q => absurd ((nI_eq (b := 24) (by omega) (by decide)).mp q) (by omega)
            have q0 : ¬ nI c = 0 := nI_ne0 (by omega) (by omega)
            simp +decide only [mjs_0, mjs_1, mjs_2, mjs_3, mjs_ble, true_and, Bool.false_eq_true, if_false, if_true, Nat.reduceAdd, Nat.reduceSub, Nat.reduceLeDiff, false_implies, true_implies, not_false_eq_true, not_true_eq_false, and_true]
            refine ⟨fun _ => mj_blk rfl ?_, fun q => absurd q24 q⟩
            simp +decide only [mjs_0, mjs_1, mjs_2, mjs_3, mjs_ble, true_and, Bool.false_eq_true, if_false, if_true, Nat.reduceAdd, Nat.reduceSub, Nat.reduceLeDiff, false_implies, true_implies, not_false_eq_true, not_true_eq_false, and_true]
            refine ⟨fun q => absurd q q0, fun _ => mj_blk rfl ?_⟩
            simp +decide only [mjs_0, mjs_1, mjs_2, mjs_3, mjs_ble, true_and, Bool.false_eq_true, if_false, if_true, Nat.reduceAdd, Nat.reduceSub, Nat.reduceLeDiff, false_implies, true_implies, not_false_eq_true, not_true_eq_false, and_true, mc_sh, hr, mjs_up_at, mjs_up_c, mjs_up_f]
            refine p_64 (K := (K'.1 + 1, K'.2)) hR hM' hX hN hN' h12 hD hD' (show K'.2.2 + 40 = 40 by rw [hK2.2, h0]) (show K'.2.2 + 1 + 39 = 40 by rw [hK2.2, h0]) hr' hv2 hw2 (show S'.2.2.2 + 1 ≤ K'.1 + 1 by have := hw'.1; omega) (show M.2.2.2.2.2 + 1 ≤ K'.1 + 1 by omega) hst (by omega) c1 ⟨c25, c36⟩ ?_ ?_
            · intro fb2 K2 P2 N2 S2 M2 C2 L2 I3 d1 d2 d3 d4 d5 d6 d7 d8
              simp +decide only [mjs_0, mjs_1, mjs_2, mjs_3, mjs_ble, true_and, Bool.false_eq_true, if_false, if_true, Nat.reduceAdd, Nat.reduceSub, Nat.reduceLeDiff, false_implies, true_implies, not_false_eq_true, not_true_eq_false, and_true]
              refine mj_blk rfl ?_
              simp +decide only [mjs_0, mjs_1, mjs_2, mjs_3, mjs_ble, true_and, Bool.false_eq_true, if_false, if_true, Nat.reduceAdd, Nat.reduceSub, Nat.reduceLeDiff, false_implies, true_implies, not_false_eq_true, not_true_eq_false, and_true, nI_1]
              have e4 : K2.2 = K'.2 := d4.2
              have e5 : K'.1 + 1 ≤ K2.1 := d4.1
              exact mj_nv (ih (K2.2.1 - K2.1) (by have e : K'.2.1 = K.2.1 := by rw [hK2.2]
                                                  rw [e4]
                                                  omega) (i + 1) fb2 K2 P2 E N2 S2 M2 C2 O L2 w1 none none I3 Q (Nat.le_refl _) (by omega) (by rw [e4, hK2.2]; exact h0) d1 d5 (fun l hl => by rw [d6.1]; exact hk2 l (by have := d6.2; omega)) d7.2 d7.1 d3 d2 (fun I4 v tk O' cn nc' ns' b1 b2 b3 b4 => hQ I4 v tk O' cn nc' ns' b1 b2 b3 (re_a hM' h12 hv2 ht (by omega) hk5 ⟨c25, c36⟩ hgm a9 d8 b4)))
            · intro fb2 g' I3 d1 d2
              exact mj_ret_in (by decide) (mj_nv (flt g' I3 none none none d1 (re_y3 hM' (by omega) hk5 a9 (ry_167a hM' hv2 ht ⟨c25, c36⟩ hgm d2))))
          · exact mj_ret_in (by decide) (mj_nv (flt g' I3 none none none d1 (re_y3 hM' (by omega) hk5 a9 (ry_mono d2 (by omega)))))
        · exact mj_ret_in (by decide) (mj_nv (flt _ I2 none none none c1 (re_y2 hM' (by omega) ⟨heq, k5'.2.1⟩ a9)))
    · exact mj_ret_in (by decide) (mj_nv (flt g' I' none none none a1 (re_y1 hM' a2)))
end MJLP
