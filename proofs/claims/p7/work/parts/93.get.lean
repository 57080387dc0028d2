/-! THE NEXT TOKEN, in both -/
/-- a line's characters, with the line end behind them -/
def lnL (v : Nat → Nat) (nl a : Nat) : List Nat := (List.range (a - nl)).map (fun i => v (nl + i)) ++ [13]
theorem lnL_len {v : Nat → Nat} {nl a : Nat} : (lnL v nl a).length = a - nl + 1 := by
  unfold lnL
  rw [List.length_append, List.length_map, List.length_range]
  rfl
theorem lnL_at {v : Nat → Nat} {nl a i : Nat} (h : i < a - nl) : (lnL v nl a).getD i 0 = v (nl + i) := by
  unfold lnL
  rw [List.getD_eq_getElem?_getD, List.getElem?_append_left (by rw [List.length_map, List.length_range]; exact h), List.getElem?_map, List.getElem?_range h]
  rfl
theorem lnL_end {v : Nat → Nat} {nl a : Nat} : (lnL v nl a).getD (a - nl) 0 = 13 := by
  unfold lnL
  rw [List.getD_eq_getElem?_getD, List.getElem?_append_right (by rw [List.length_map, List.length_range]; exact Nat.le_refl _), List.length_map, List.length_range, Nat.sub_self]
  rfl
theorem lnL_mem {v : Nat → Nat} {nl a n : Nat} (hv : ∀ j, j < n → v j < 256) (ha : a ≤ n) : ∀ c ∈ lnL v nl a, c < 256 := by
  intro c hc
  unfold lnL at hc
  rcases List.mem_append.mp hc with h | h
  · obtain ⟨i, h1, rfl⟩ := List.mem_map.mp h
    exact hv _ (by have := List.mem_range.mp h1; omega)
  · rw [List.mem_singleton.mp h]
    decide
theorem tl_le {L : sgL} (h : gvL L) : tl L ≤ 4001 := by
  obtain ⟨⟨h1, h2, h3, h4⟩, -⟩ := h
  unfold tl
  split <;> omega
section MJGT
variable {X : mj_X} {d nc ns : Nat} {Q : mj_Q} {I I' J J' H : Nat → Nat → Int32} {Lg : Nat → Nat → Int64} {Rf : Nat → Nat → Option Nat} {fb : Nat → Nat → Int32} {vb : Nat → Int32} {K : Nat × Nat × Nat} {P : List Nat} {E : sgE} {N : sgN} {S : sgS} {M : sgM} {C : sgC} {O : sgO} {L L' : sgL}
/-- what the class's read wants of its continuation, while the reference stands at pc -/
def p_Q (X : mj_X) (Rf : Nat → Nat → Option Nat) (fb : Nat → Nat → Int32) (vb : Nat → Int32) (K : Nat × Nat × Nat) (E : sgE) (N : sgN) (S : sgS) (M : sgM) (C : sgC) (O : sgO) (L : sgL) (pc : Nat) (b : Int32) (d nc ns : Nat) (Lg : Nat → Nat → Int64) (Q : mj_Q) : Prop :=
  (∀ t N' L' I', gv (K, [], E, N', S, M, C, O, L') → RC fb vb (K, [], E, N', S, M, C, O, L') I' → nx N N' → tl L' < tl L → tv N'.2.2 t → RB X Rf mb_115 3 pc [some (.ref 36), none, none] [] (K, [], E, N, S, M, C, O, L) (some (.int (nI (rt t)))) (K, [], E, N', S, M, C, O, L') → Q (.inl (some (.int (nI t)))) (sh59, I', Lg, Rf, nc, ns)) ∧
  (∀ L' I', gv (K, [], E, N, S, M, C, O, L') → RC fb vb (K, [], E, N, S, M, C, O, L') I' → tl L' = 0 → RB X Rf mb_115 3 pc [some (.ref 36), none, none] [] (K, [], E, N, S, M, C, O, L) (some (.int (-1))) (K, [], E, N, S, M, C, O, L') → ∀ w : Option Value, mj_rn X (mj_hd []) (mj_call X mj_P (mj_bi X) (d + 1)) mb_85 262 [some (.ref 17), some (.int b), w, none, none, none, none] [] (sh59, I', Lg, Rf, nc, ns) Q) ∧
  (∀ g' I', RCf fb vb g' I' → RBf X Rf mb_115 3 pc [some (.ref 36), none, none] [] (K, [], E, N, S, M, C, O, L) (some (.int (-1))) g' → Q (.inr 500) (sh59, I', Lg, Rf, nc + 1, ns + 6))
theorem p_Q_to {pc : Nat} {b : Int32} (h : p_Q X Rf fb vb K E N S M C O L pc b d nc ns Lg Q) (ht : tl L' ≤ tl L) {pc' : Nat} (h1 : ∀ o g', RB X Rf mb_115 3 pc' [some (.ref 36), none, none] [] (K, [], E, N, S, M, C, O, L') o g' → RB X Rf mb_115 3 pc [some (.ref 36), none, none] [] (K, [], E, N, S, M, C, O, L) o g') (h2 : ∀ o g', RBf X Rf mb_115 3 pc' [some (.ref 36), none, none] [] (K, [], E, N, S, M, C, O, L') o g' → RBf X Rf mb_115 3 pc [some (.ref 36), none, none] [] (K, [], E, N, S, M, C, O, L) o g') : p_Q X Rf fb vb K E N S M C O L' pc' b d nc ns Lg Q :=
  ⟨fun t N' L'' I' a1 a2 a3 a4 a5 a6 => h.1 t N' L'' I' a1 a2 a3 (by omega) a5 (h1 _ _ a6), fun L'' I' a1 a2 a3 a4 => h.2.1 L'' I' a1 a2 a3 (h1 _ _ a4), fun g' I' a1 a2 => h.2.2 g' I' a1 (h2 _ _ a2)⟩
theorem rr_ct (gS : gvS N.2.2 M.2.2.2.2.1 S) (hS : rrS M N.2.2 S J) {c : Nat} (hc : c < 256) : J (36 + 11) (256 * S.2.2.1 + c) = nI (ctg S c) := (hS.2.2.1 S.2.2.1 c (Nat.le_refl _) hc).2.1.trans (ctg_of gS hc).1
theorem tv_ch {k q c : Nat} (hq : q ≤ 13) (hc : c < 256) : tv k (256 * q + c) := Or.inl (Or.inl (by omega))
theorem rt_ch {q c : Nat} (hq : q ≤ 12) (hc : c < 256) : rt (256 * q + c) = 256 * q + c := by
  unfold rt rb
  rw [if_neg (by omega), if_pos (by omega)]
theorem rt_ac {c : Nat} (hc : c < 256) : rt (3328 + c) = 131072 + c := by
  unfold rt rb
  rw [if_neg (by omega), if_neg (by omega), if_pos (by omega)]
  omega
theorem rt_nm {x : Nat} (hx : x < 1036) : rt (65536 + x) = 65536 + rp x := by
  unfold rt rb
  rw [if_neg (by omega), if_neg (by omega), if_neg (by omega), if_neg (by omega), Nat.add_sub_cancel_left]
theorem tv_nm {k x : Nat} (hx : x < k) : tv k (65536 + x) := Or.inl (Or.inr ⟨by omega, by omega⟩)
theorem p_54 (hR : mj_Rt mp_R Rf) (hM' : mj_Rt mm_R Rf) {c : Nat} {r : List Nat} {st n nl : Nat} {v : Nat → Nat} (hv : gv (K, [], E, N, S, M, C, O, (c :: r, st, v, n, nl))) (h : RC fb vb (K, [], E, N, S, M, C, O, (c :: r, st, v, n, nl)) I) (hr' : nc + 1 ≤ X.2.2.1 ∧ ns + 6 ≤ X.2.2.2) {b : Int32} (hb : p_Q X Rf fb vb K E N S M C O (c :: r, st, v, n, nl) 20 b d nc ns Lg Q) {i : Int32}
    (ih : ∀ L' I', tl L' < tl (c :: r, st, v, n, nl) → gv (K, [], E, N, S, M, C, O, L') → RC fb vb (K, [], E, N, S, M, C, O, L') I' → p_Q X Rf fb vb K E N S M C O L' 0 b d nc ns Lg Q → mj_rn X (mj_hd []) (mj_call X mj_P (mj_bi X) (d + 1)) mb_85 29 [some (.ref 17), some (.int b), some (.int (i + 1)), none, none, none, none] [] (sh59, I', Lg, Rf, nc, ns) Q) {w3 w4 w5 w6 : Option Value} :
    mj_rn X (mj_hd []) (mj_call X mj_P (mj_bi X) (d + 1)) mb_85 54 [some (.ref 17), some (.int b), some (.int i), w3, w4, w5, w6] [] (sh59, I, Lg, Rf, nc, ns) Q := by
  have hr := mc_rf hR
  have hm := mm_rf hM'
  have h' := h
  have gS := (gv_d hv).2.2.2.1
  have gL := (gv_d hv).2.2.2.2.2.2.2
  have hst : st ≤ 2 := gL.1.2.2.1
  have hc256 : c < 256 := gL.2.1 c List.mem_cons_self
  have ct := ctg_of gS hc256
  have vL : ∀ (r' : List Nat) (st' : Nat), r'.length ≤ r.length → (∀ c ∈ r', c < 256) → st' ≤ 2 → gv (K, [], E, N, S, M, C, O, (r', st', v, n, nl)) := fun r' st' a1 a2 a3 => gv_L hv ⟨⟨gL.1.1, gL.1.2.1, a3, by have := gL.1.2.2.2; simp only [List.length_cons] at this; dsimp only; omega⟩, a2, gL.2.2⟩
  have rmem : ∀ c ∈ r, c < 256 := fun x hx => gL.2.1 x (List.mem_cons_of_mem _ hx)
  have tL : ∀ (r' : List Nat) (st' : Nat), r'.length ≤ r.length → tl (r', st', v, n, nl) < tl (c :: r, st, v, n, nl) := fun r' st' a1 => by
    unfold tl
    simp only [List.length_cons]
    omega
  obtain ⟨hK, hP, hE, hN, hS, hM, hC, hO, hL, hZ⟩ := rc_d (h)
  have hL' := hL
  obtain ⟨l1, l2, l5, ⟨at', le, l3, l4, le1, le2, lc⟩, lt⟩ := hL
  have le1 : le + 1 = at' + (r.length + 1) := le1
  have hc0 : I 18 at' = nI c := lc 0 (by simp)
  have c10 : I 10 (256 + c) = nI (ctg S c) := (rc_10 hS (by omega)).trans ct.1
  have e1 : (nI at').toNatClampNeg = at' := nI_clamp (by omega)
  have e2 : (nI (256 + c)).toNatClampNeg = 256 + c := nI_clamp (by omega)
  have e3 : (256 : Int32) + nI c = nI (256 + c) := nI_add 256 c
  have hq15 := ct.2
  -- the class, behind the character; the same with the line dropped
  have h1 : ∀ (st' : Nat) (I1 : Nat → Nat → Int32), (∀ b q, b ≠ 17 → I1 b q = I b q) → (∀ q, q ≠ 3 → q ≠ 5 → I1 17 q = I 17 q) → I1 17 3 = nI (at' + 1) → I1 17 5 = nI st' → RC fb vb (K, [], E, N, S, M, C, O, (r, st', v, n, nl)) I1 := by
    intro st' I1 a1 a2 a3 a4
    refine rc_L h' (fun b q b1 _ _ => a1 b q b1) (a2 8 (by decide) (by decide)) (rcL_eat hL' (a2 1 (by decide) (by decide)) (a2 2 (by decide) (by decide)) (a2 4 (by decide) (by decide)) (fun q => a1 18 q (by decide)) a4 (by rw [a3, l3, nI_1]))
  have h2 : ∀ (st' : Nat) (I1 : Nat → Nat → Int32), (∀ b q, b ≠ 17 → I1 b q = I b q) → (∀ q, q ≠ 3 → q ≠ 5 → I1 17 q = I 17 q) → I1 17 3 = nI (le + 1) → I1 17 5 = nI st' → RC fb vb (K, [], E, N, S, M, C, O, ([], st', v, n, nl)) I1 := by
    intro st' I1 a1 a2 a3 a4
    refine rc_L h' (fun b q b1 _ _ => a1 b q b1) (a2 8 (by decide) (by decide)) (rcL_drop hL' (a2 1 (by decide) (by decide)) (a2 2 (by decide) (by decide)) (a2 4 (by decide) (by decide)) (fun q => a1 18 q (by decide)) a4 (by rw [a3, l4, nI_1]))
  -- the reference, behind the character and its category
  have r55 : ∀ (H : Nat → Nat → Int32) (Lg : Nat → Nat → Int64) (d nc ns : Nat) (J : Nat → Nat → Int32) (Q : mj_Q), RR H (K, [], E, N, S, M, C, O, (c :: r, st, v, n, nl)) J → (∀ (J1 : Nat → Nat → Int32) (lp : Nat), RR H (K, [], E, N, S, M, C, O, (r, st, v, n, nl)) J1 → J1 36 10 = nI st → J1 36 9 = nI (lp + 1) → J1 36 8 = nI (lp + (r.length + 1)) → lp + (r.length + 1) ≤ 4001 → (ctg S c = 0 → mj_rn X (mj_hd []) (mj_call X mj_P (mj_bi X) (d + 3)) mb_115 50 [some (.ref 36), some (.int (nI c)), some (.int (nI (ctg S c)))] [] (sh59, J1, Lg, Rf, nc, ns) Q) ∧ (ctg S c ≠ 0 → mj_rn X (mj_hd []) (mj_call X mj_P (mj_bi X) (d + 3)) mb_115 55 [some (.ref 36), some (.int (nI c)), some (.int (nI (ctg S c)))] [] (sh59, J1, Lg, Rf, nc, ns) Q)) →
      mj_rn X (mj_hd []) (mj_call X mj_P (mj_bi X) (d + 3)) mb_115 20 [some (.ref 36), none, none] [] (sh59, J, Lg, Rf, nc, ns) Q := by
    intro H Lg d nc ns J Q hJ hq
    obtain ⟨jK, jP, jE, jN, jS, jM, jC, jO, jL, jZ⟩ := rr_d hJ
    obtain ⟨k1, k2, k3, ⟨lp, k4, k5, k6, k7⟩, k8, k9⟩ := id jL
    have k5 : J 36 8 = nI (lp + (r.length + 1)) := k5
    have k6 : lp + (r.length + 1) ≤ 4001 := k6
    have kc : J 39 lp = nI c := k7 0 (by simp)
    have e1 : (nI lp).toNatClampNeg = lp := nI_clamp (by omega)
    have hJ1 : RR H (K, [], E, N, S, M, C, O, (r, st, v, n, nl)) (mj_up J 36 9 (nI (lp + 1))) := by
      refine rr_L hJ (fun b q b1 _ _ => mjs_up_c b1) (fun q q1 q2 q3 q4 q5 q6 => mjs_up_f q4) (rrL_eat jL rfl rfl rfl rfl (fun _ => rfl) (fun _ => rfl) (fun _ => k3 (by simp)) ?_)
      rw [mjs_up_at, k4, nI_1]
    refine mj_blk rfl ?_
    simp +decide only [mjs_0, mjs_1, mjs_2, mjs_3, mjs_ble, true_and, Bool.false_eq_true, if_false, if_true, Nat.reduceAdd, Nat.reduceSub, Nat.reduceLeDiff, false_implies, true_implies, not_false_eq_true, not_true_eq_false, and_true, mm_sh, hm, mjs_up_at, mjs_up_c, mjs_up_f, k4, e1, kc, nI_1]
    refine ⟨nI_in (by omega) (by decide), r_112 (mm_W hM') hc256 (by exact jS.1) gS.1 ?_⟩
    rw [rr_ct (N := N) gS hJ1.2.2.2.2.1 hc256]
    simp +decide only [mjs_0, mjs_1, mjs_2, mjs_3, mjs_ble, true_and, Bool.false_eq_true, if_false, if_true, Nat.reduceAdd, Nat.reduceSub, Nat.reduceLeDiff, false_implies, true_implies, not_false_eq_true, not_true_eq_false, and_true, mm_sh, hm, mjs_up_at, mjs_up_c, mjs_up_f]
    obtain ⟨q1, q2⟩ := hq _ lp hJ1 (k3 (by simp)) rfl k5 k6
    refine ⟨fun q => ?_, fun q => ?_⟩
    · exact q2 (fun e => q (by rw [e]; rfl))
    · exact q1 (tk_0 (by omega) (Decidable.not_not.mp q))
  -- the reference drops the line
  have r_dr : ∀ (H J1 : Nat → Nat → Int32) (lp : Nat), RR H (K, [], E, N, S, M, C, O, (r, st, v, n, nl)) J1 → J1 36 8 = nI (lp + (r.length + 1)) → lp + (r.length + 1) ≤ 4001 → ∀ st', RR H (K, [], E, N, S, M, C, O, ([], st', v, n, nl)) (mj_up J1 36 9 (nI (lp + (r.length + 1)))) := by
    intro H J1 lp a1 a2 a3 st'
    refine rr_L a1 (fun b q b1 _ _ => mjs_up_c b1) (fun q q1 q2 q3 q4 q5 q6 => mjs_up_f q4) ?_
    obtain ⟨k1, k2, k3, ⟨lp', k4, k5, k6, k7⟩, k8, k9⟩ := a1.2.2.2.2.2.2.2.2.1
    exact ⟨k1, k2, fun e => absurd rfl e, ⟨lp + (r.length + 1), rfl, a2, a3, fun i hi => absurd hi (Nat.not_lt_zero _)⟩, k8, k9⟩
  have r_st : ∀ (H J1 : Nat → Nat → Int32) (x : Int32) (st' : Nat), RR H (K, [], E, N, S, M, C, O, (r, st, v, n, nl)) J1 → x = nI st' → RR H (K, [], E, N, S, M, C, O, (r, st', v, n, nl)) (mj_up J1 36 10 x) := by
    intro H J1 x st' a1 hx
    refine rr_L a1 (fun b q b1 _ _ => mjs_up_c b1) (fun q q1 q2 q3 q4 q5 q6 => mjs_up_f q5) ?_
    obtain ⟨k1, k2, k3, k4, k8, k9⟩ := a1.2.2.2.2.2.2.2.2.1
    exact ⟨k1, k2, fun _ => hx, k4, k8, k9⟩
  have g3 : ∀ q, q ≠ 3 → mj_up I 17 3 (nI (at' + 1)) 17 q = I 17 q := fun q hq => mjs_up_f hq
  refine mj_blk rfl ?_
  simp +decide only [mjs_0, mjs_1, mjs_2, mjs_3, mjs_ble, true_and, Bool.false_eq_true, if_false, if_true, Nat.reduceAdd, Nat.reduceSub, Nat.reduceLeDiff, false_implies, true_implies, not_false_eq_true, not_true_eq_false, and_true, mc_sh, hr, mjs_up_at, mjs_up_c, mjs_up_f, l3, e1, hc0, e3, e2, c10, nI_1]
  refine ⟨nI_in (by omega) (by decide), nI_in (by omega) (by decide), fun q0 => ?_, fun q0 => mj_blk rfl ?_⟩
  · -- no escape character
    have hn0 : ctg S c ≠ 0 := fun e => q0 (by rw [e]; rfl)
    have ne : ∀ k : Nat, k < 256 → ∀ x : Int32, x = nI k → (nI (ctg S c) = x ↔ ctg S c = k) := fun k hk x hx => by
      rw [hx]
      exact nI_eq (by omega) (by omega)
    -- the class's next round
    have K256 : ∀ (L' : sgL) (I' : Nat → Nat → Int32) (w3 w4 : Option Value), tl L' < tl (c :: r, st, v, n, nl) → gv (K, [], E, N, S, M, C, O, L') → RC fb vb (K, [], E, N, S, M, C, O, L') I' → p_Q X Rf fb vb K E N S M C O L' 0 b d nc ns Lg Q → mj_rn X (mj_hd []) (mj_call X mj_P (mj_bi X) (d + 1)) mb_85 256 [some (.ref 17), some (.int b), some (.int i), w3, w4, none, none] [] (sh59, I', Lg, Rf, nc, ns) Q := by
      intro L' I' w3 w4 a1 a2 a3 a4
      refine mj_blk rfl ?_
      simp +decide only [mjs_0, mjs_1, mjs_2, mjs_3, mjs_ble, true_and, Bool.false_eq_true, if_false, if_true, Nat.reduceAdd, Nat.reduceSub, Nat.reduceLeDiff, false_implies, true_implies, not_false_eq_true, not_true_eq_false, and_true, mc_sh, hr, mjs_up_at, mjs_up_c, mjs_up_f]
      exact ih L' I' a1 a2 a3 a4
    have r180 : ∀ (H : Nat → Nat → Int32) (Lg : Nat → Nat → Int64) (d nc ns : Nat) (J : Nat → Nat → Int32) (Q : mj_Q) (w1 w2 : Option Value), mj_rn X (mj_hd []) (mj_call X mj_P (mj_bi X) (d + 3)) mb_115 0 [some (.ref 36), none, none] [] (sh59, J, Lg, Rf, nc, ns) Q → mj_rn X (mj_hd []) (mj_call X mj_P (mj_bi X) (d + 3)) mb_115 180 [some (.ref 36), w1, w2] [] (sh59, J, Lg, Rf, nc, ns) Q := by
      intro H Lg d nc ns J Q w1 w2 hq
      refine mj_blk rfl ?_
      simp +decide only [mjs_0, mjs_1, mjs_2, mjs_3, mjs_ble, true_and, Bool.false_eq_true, if_false, if_true, Nat.reduceAdd, Nat.reduceSub, Nat.reduceLeDiff, false_implies, true_implies, not_false_eq_true, not_true_eq_false, and_true, mm_sh, hm, mjs_up_at, mjs_up_c, mjs_up_f]
      exact hq
    have hg : ∀ (o : Option Value) (g' : sg), (∀ (H : Nat → Nat → Int32) (Lg : Nat → Nat → Int64) (d nc ns : Nat) (J1 : Nat → Nat → Int32) (lp : Nat) (Q : mj_Q), RR H (K, [], E, N, S, M, C, O, (r, st, v, n, nl)) J1 → J1 36 10 = nI st → J1 36 9 = nI (lp + 1) → J1 36 8 = nI (lp + (r.length + 1)) → lp + (r.length + 1) ≤ 4001 → (∀ J', RR H g' J' → Q (.inl o) (sh59, J', Lg, Rf, nc, ns)) → mj_rn X (mj_hd []) (mj_call X mj_P (mj_bi X) (d + 3)) mb_115 55 [some (.ref 36), some (.int (nI c)), some (.int (nI (ctg S c)))] [] (sh59, J1, Lg, Rf, nc, ns) Q) →
        RB X Rf mb_115 3 20 [some (.ref 36), none, none] [] (K, [], E, N, S, M, C, O, (c :: r, st, v, n, nl)) o g' := by
      intro o g' hh H Lg d nc ns J Q hJ hq
      exact r55 H Lg d nc ns J Q hJ (fun J1 lp a1 a2 a3 a4 a5 => ⟨fun e => absurd e hn0, fun _ => hh H Lg d nc ns J1 lp Q a1 a2 a3 a4 a5 hq⟩)
    have hgc : ∀ (L' : sgL), (∀ (H : Nat → Nat → Int32) (Lg : Nat → Nat → Int64) (d nc ns : Nat) (J1 : Nat → Nat → Int32) (lp : Nat) (Q : mj_Q), RR H (K, [], E, N, S, M, C, O, (r, st, v, n, nl)) J1 → J1 36 10 = nI st → J1 36 9 = nI (lp + 1) → J1 36 8 = nI (lp + (r.length + 1)) → lp + (r.length + 1) ≤ 4001 → (∀ J' w1 w2, RR H (K, [], E, N, S, M, C, O, L') J' → mj_rn X (mj_hd []) (mj_call X mj_P (mj_bi X) (d + 3)) mb_115 180 [some (.ref 36), w1, w2] [] (sh59, J', Lg, Rf, nc, ns) Q) → mj_rn X (mj_hd []) (mj_call X mj_P (mj_bi X) (d + 3)) mb_115 55 [some (.ref 36), some (.int (nI c)), some (.int (nI (ctg S c)))] [] (sh59, J1, Lg, Rf, nc, ns) Q) →
        tl L' ≤ tl (c :: r, st, v, n, nl) → p_Q X Rf fb vb K E N S M C O L' 0 b d nc ns Lg Q := by
      intro L' hh ht
      refine p_Q_to hb ht (fun o g' hB => ?_) (fun o g' hB => ?_)
      · intro H Lg d nc ns J Q hJ hq
        exact r55 H Lg d nc ns J Q hJ (fun J1 lp a1 a2 a3 a4 a5 => ⟨fun e => absurd e hn0, fun _ => hh H Lg d nc ns J1 lp Q a1 a2 a3 a4 a5 (fun J' w1 w2 hJ' => r180 H Lg d nc ns J' Q w1 w2 (hB H Lg d nc ns J' Q hJ' hq))⟩)
      · intro H Lg d nc ns J Q hJ hq
        exact r55 H Lg d nc ns J Q hJ (fun J1 lp a1 a2 a3 a4 a5 => ⟨fun e => absurd e hn0, fun _ => hh H Lg d nc ns J1 lp Q a1 a2 a3 a4 a5 (fun J' w1 w2 hJ' => r180 H Lg d nc ns J' Q w1 w2 (hB H Lg d nc ns J' Q hJ' hq))⟩)
    have e86 : ∀ (w : Int32) (K' : mj_Q), K' (.inl none) (sh59, mj_up (mj_up I 17 3 w) 17 3 (nI (le + 1)), Lg, Rf, nc, ns) → mj_call X mj_P (mj_bi X) (d + 1) 86 [.ref 17] (sh59, mj_up I 17 3 w, Lg, Rf, nc, ns) K' := by
      intro w K' hK'
      refine mj_enter (z := (1, [], mb_86)) (by decide) rfl rfl ?_
      refine mj_blk rfl ?_
      simp +decide only [mjs_0, mjs_1, mjs_2, mjs_3, mjs_ble, true_and, Bool.false_eq_true, if_false, if_true, Nat.reduceAdd, Nat.reduceSub, Nat.reduceLeDiff, false_implies, true_implies, not_false_eq_true, not_true_eq_false, and_true, mc_sh, hr, mjs_up_at, mjs_up_c, mjs_up_f, l4, nI_1]
      exact hK'
    have u2 : ∀ (w w' : Int32) (b q : Nat), b ≠ 17 → mj_up (mj_up I 17 3 w) 17 3 w' b q = I b q := fun w w' b q hb => by rw [mjs_up_c hb, mjs_up_c hb]
    have u3 : ∀ (w w' : Int32) (q : Nat), q ≠ 3 → mj_up (mj_up I 17 3 w) 17 3 w' 17 q = I 17 q := fun w w' q hq => by rw [mjs_up_f hq, mjs_up_f hq]
    have zl : ∀ l : List Nat, ([] : List Nat).length ≤ l.length := fun l => Nat.zero_le _
    have nm : ∀ c ∈ ([] : List Nat), c < 256 := fun c hc => by cases hc
    by_cases c5 : ctg S c = 5
    · -- the line's end
      refine mj_blk rfl ?_
      simp +decide only [mjs_0, mjs_1, mjs_2, mjs_3, mjs_ble, true_and, Bool.false_eq_true, if_false, if_true, Nat.reduceAdd, Nat.reduceSub, Nat.reduceLeDiff, false_implies, true_implies, not_false_eq_true, not_true_eq_false, and_true, c5]
      refine mj_blk rfl ?_
      simp +decide only [mjs_0, mjs_1, mjs_2, mjs_3, mjs_ble, true_and, Bool.false_eq_true, if_false, if_true, Nat.reduceAdd, Nat.reduceSub, Nat.reduceLeDiff, false_implies, true_implies, not_false_eq_true, not_true_eq_false, and_true]
      refine mj_blk rfl ?_
      simp +decide only [mjs_0, mjs_1, mjs_2, mjs_3, mjs_ble, true_and, Bool.false_eq_true, if_false, if_true, Nat.reduceAdd, Nat.reduceSub, Nat.reduceLeDiff, false_implies, true_implies, not_false_eq_true, not_true_eq_false, and_true, mc_sh, hr, mjs_up_at, mjs_up_c, mjs_up_f]
      refine e86 _ _ ?_
      simp +decide only [mjs_0, mjs_1, mjs_2, mjs_3, mjs_ble, true_and, Bool.false_eq_true, if_false, if_true, Nat.reduceAdd, Nat.reduceSub, Nat.reduceLeDiff, false_implies, true_implies, not_false_eq_true, not_true_eq_false, and_true]
      refine mj_blk rfl ?_
      simp +decide only [mjs_0, mjs_1, mjs_2, mjs_3, mjs_ble, true_and, Bool.false_eq_true, if_false, if_true, Nat.reduceAdd, Nat.reduceSub, Nat.reduceLeDiff, false_implies, true_implies, not_false_eq_true, not_true_eq_false, and_true]
      have s012 : st = 0 ∨ st = 1 ∨ st = 2 := by omega
      rcases s012 with rfl | rfl | rfl
      · refine mj_blk rfl ?_
        simp +decide only [mjs_0, mjs_1, mjs_2, mjs_3, mjs_ble, true_and, Bool.false_eq_true, if_false, if_true, Nat.reduceAdd, Nat.reduceSub, Nat.reduceLeDiff, false_implies, true_implies, not_false_eq_true, not_true_eq_false, and_true, mc_sh, hr, mjs_up_at, mjs_up_c, mjs_up_f, l5]
        refine mj_blk rfl ?_
        simp +decide only [mjs_0, mjs_1, mjs_2, mjs_3, mjs_ble, true_and, Bool.false_eq_true, if_false, if_true, Nat.reduceAdd, Nat.reduceSub, Nat.reduceLeDiff, false_implies, true_implies, not_false_eq_true, not_true_eq_false, and_true, mc_sh, hr, mjs_up_at, mjs_up_c, mjs_up_f]
        refine hb.1 65555 N ([], 0, v, n, nl) _ (vL [] 0 (zl _) nm (by decide)) (h2 0 _ (fun b q hb => u2 _ _ b q hb) (fun q q3 _ => u3 _ _ q q3) mjs_up_at ((u3 _ _ 5 (by decide)).trans l5)) nx_rf (tL [] 0 (zl _)) (tv_nm (x := 19) (by have := (gv_d hv).2.2.1.1; omega)) (hg _ _ ?_)
        intro H Lg d nc ns J1 lp Q a1 a2 a3 a4 a5 hq
        refine mj_blk rfl ?_
        simp +decide only [mjs_0, mjs_1, mjs_2, mjs_3, mjs_ble, true_and, Bool.false_eq_true, if_false, if_true, Nat.reduceAdd, Nat.reduceSub, Nat.reduceLeDiff, false_implies, true_implies, not_false_eq_true, not_true_eq_false, and_true, mm_sh, hm, mjs_up_at, mjs_up_c, mjs_up_f, c5]
        refine mj_blk rfl ?_
        simp +decide only [mjs_0, mjs_1, mjs_2, mjs_3, mjs_ble, true_and, Bool.false_eq_true, if_false, if_true, Nat.reduceAdd, Nat.reduceSub, Nat.reduceLeDiff, false_implies, true_implies, not_false_eq_true, not_true_eq_false, and_true, mm_sh, hm, mjs_up_at, mjs_up_c, mjs_up_f, a4, a2]
        refine mj_blk rfl ?_
        simp +decide only [mjs_0, mjs_1, mjs_2, mjs_3, mjs_ble, true_and, Bool.false_eq_true, if_false, if_true, Nat.reduceAdd, Nat.reduceSub, Nat.reduceLeDiff, false_implies, true_implies, not_false_eq_true, not_true_eq_false, and_true, mm_sh, hm, mjs_up_at, mjs_up_c, mjs_up_f, a2]
        refine mj_blk rfl ?_
        simp +decide only [mjs_0, mjs_1, mjs_2, mjs_3, mjs_ble, true_and, Bool.false_eq_true, if_false, if_true, Nat.reduceAdd, Nat.reduceSub, Nat.reduceLeDiff, false_implies, true_implies, not_false_eq_true, not_true_eq_false, and_true, mm_sh, hm, mjs_up_at, mjs_up_c, mjs_up_f]
        refine mj_blk rfl ?_
        simp +decide only [mjs_0, mjs_1, mjs_2, mjs_3, mjs_ble, true_and, Bool.false_eq_true, if_false, if_true, Nat.reduceAdd, Nat.reduceSub, Nat.reduceLeDiff, false_implies, true_implies, not_false_eq_true, not_true_eq_false, and_true, mm_sh, hm, mjs_up_at, mjs_up_c, mjs_up_f]
        exact hq _ (r_dr H J1 lp a1 a4 a5 0)
      · refine mj_blk rfl ?_
        simp +decide only [mjs_0, mjs_1, mjs_2, mjs_3, mjs_ble, true_and, Bool.false_eq_true, if_false, if_true, Nat.reduceAdd, Nat.reduceSub, Nat.reduceLeDiff, false_implies, true_implies, not_false_eq_true, not_true_eq_false, and_true, mc_sh, hr, mjs_up_at, mjs_up_c, mjs_up_f, l5]
        refine mj_blk rfl ?_
        simp +decide only [mjs_0, mjs_1, mjs_2, mjs_3, mjs_ble, true_and, Bool.false_eq_true, if_false, if_true, Nat.reduceAdd, Nat.reduceSub, Nat.reduceLeDiff, false_implies, true_implies, not_false_eq_true, not_true_eq_false, and_true, mc_sh, hr, mjs_up_at, mjs_up_c, mjs_up_f]
        refine mj_blk rfl ?_
        simp +decide only [mjs_0, mjs_1, mjs_2, mjs_3, mjs_ble, true_and, Bool.false_eq_true, if_false, if_true, Nat.reduceAdd, Nat.reduceSub, Nat.reduceLeDiff, false_implies, true_implies, not_false_eq_true, not_true_eq_false, and_true, mc_sh, hr, mjs_up_at, mjs_up_c, mjs_up_f]
        refine mj_blk rfl ?_
        simp +decide only [mjs_0, mjs_1, mjs_2, mjs_3, mjs_ble, true_and, Bool.false_eq_true, if_false, if_true, Nat.reduceAdd, Nat.reduceSub, Nat.reduceLeDiff, false_implies, true_implies, not_false_eq_true, not_true_eq_false, and_true, mc_sh, hr, mjs_up_at, mjs_up_c, mjs_up_f, l5]
        refine mj_blk rfl ?_
        simp +decide only [mjs_0, mjs_1, mjs_2, mjs_3, mjs_ble, true_and, Bool.false_eq_true, if_false, if_true, Nat.reduceAdd, Nat.reduceSub, Nat.reduceLeDiff, false_implies, true_implies, not_false_eq_true, not_true_eq_false, and_true, mc_sh, hr, mjs_up_at, mjs_up_c, mjs_up_f]
        refine hb.1 2592 N ([], 2, v, n, nl) _ (vL [] 2 (zl _) nm (by decide)) (h2 2 _ (fun b q hb => (mjs_up_c hb).trans (u2 _ _ b q hb)) (fun q q3 q5 => (mjs_up_f q5).trans (u3 _ _ q q3)) ((mjs_up_f (by decide)).trans mjs_up_at) mjs_up_at) nx_rf (tL [] 2 (zl _)) (tv_ch (q := 10) (c := 32) (by decide) (by decide)) (hg _ _ ?_)
        intro H Lg d nc ns J1 lp Q a1 a2 a3 a4 a5 hq
        refine mj_blk rfl ?_
        simp +decide only [mjs_0, mjs_1, mjs_2, mjs_3, mjs_ble, true_and, Bool.false_eq_true, if_false, if_true, Nat.reduceAdd, Nat.reduceSub, Nat.reduceLeDiff, false_implies, true_implies, not_false_eq_true, not_true_eq_false, and_true, mm_sh, hm, mjs_up_at, mjs_up_c, mjs_up_f, c5]
        refine mj_blk rfl ?_
        simp +decide only [mjs_0, mjs_1, mjs_2, mjs_3, mjs_ble, true_and, Bool.false_eq_true, if_false, if_true, Nat.reduceAdd, Nat.reduceSub, Nat.reduceLeDiff, false_implies, true_implies, not_false_eq_true, not_true_eq_false, and_true, mm_sh, hm, mjs_up_at, mjs_up_c, mjs_up_f, a4, a2]
        refine mj_blk rfl ?_
        simp +decide only [mjs_0, mjs_1, mjs_2, mjs_3, mjs_ble, true_and, Bool.false_eq_true, if_false, if_true, Nat.reduceAdd, Nat.reduceSub, Nat.reduceLeDiff, false_implies, true_implies, not_false_eq_true, not_true_eq_false, and_true, mm_sh, hm, mjs_up_at, mjs_up_c, mjs_up_f, a2]
        refine mj_blk rfl ?_
        simp +decide only [mjs_0, mjs_1, mjs_2, mjs_3, mjs_ble, true_and, Bool.false_eq_true, if_false, if_true, Nat.reduceAdd, Nat.reduceSub, Nat.reduceLeDiff, false_implies, true_implies, not_false_eq_true, not_true_eq_false, and_true, mm_sh, hm, mjs_up_at, mjs_up_c, mjs_up_f]
        refine mj_blk rfl ?_
        simp +decide only [mjs_0, mjs_1, mjs_2, mjs_3, mjs_ble, true_and, Bool.false_eq_true, if_false, if_true, Nat.reduceAdd, Nat.reduceSub, Nat.reduceLeDiff, false_implies, true_implies, not_false_eq_true, not_true_eq_false, and_true, mm_sh, hm, mjs_up_at, mjs_up_c, mjs_up_f]
        exact hq _ (r_dr H J1 lp a1 a4 a5 2)
      · refine mj_blk rfl ?_
        simp +decide only [mjs_0, mjs_1, mjs_2, mjs_3, mjs_ble, true_and, Bool.false_eq_true, if_false, if_true, Nat.reduceAdd, Nat.reduceSub, Nat.reduceLeDiff, false_implies, true_implies, not_false_eq_true, not_true_eq_false, and_true, mc_sh, hr, mjs_up_at, mjs_up_c, mjs_up_f, l5]
        refine mj_blk rfl ?_
        simp +decide only [mjs_0, mjs_1, mjs_2, mjs_3, mjs_ble, true_and, Bool.false_eq_true, if_false, if_true, Nat.reduceAdd, Nat.reduceSub, Nat.reduceLeDiff, false_implies, true_implies, not_false_eq_true, not_true_eq_false, and_true, mc_sh, hr, mjs_up_at, mjs_up_c, mjs_up_f]
        refine mj_blk rfl ?_
        simp +decide only [mjs_0, mjs_1, mjs_2, mjs_3, mjs_ble, true_and, Bool.false_eq_true, if_false, if_true, Nat.reduceAdd, Nat.reduceSub, Nat.reduceLeDiff, false_implies, true_implies, not_false_eq_true, not_true_eq_false, and_true, mc_sh, hr, mjs_up_at, mjs_up_c, mjs_up_f]
        refine mj_blk rfl ?_
        simp +decide only [mjs_0, mjs_1, mjs_2, mjs_3, mjs_ble, true_and, Bool.false_eq_true, if_false, if_true, Nat.reduceAdd, Nat.reduceSub, Nat.reduceLeDiff, false_implies, true_implies, not_false_eq_true, not_true_eq_false, and_true, mc_sh, hr, mjs_up_at, mjs_up_c, mjs_up_f, l5]
        refine K256 ([], 2, v, n, nl) _ _ _ (tL [] 2 (zl _)) (vL [] 2 (zl _) nm (by decide)) (h2 2 _ (fun b q hb => u2 _ _ b q hb) (fun q q3 _ => u3 _ _ q q3) mjs_up_at ((u3 _ _ 5 (by decide)).trans l5)) (hgc _ ?_ (Nat.le_of_lt (tL [] 2 (zl _))))
        intro H Lg d nc ns J1 lp Q a1 a2 a3 a4 a5 hq
        refine mj_blk rfl ?_
        simp +decide only [mjs_0, mjs_1, mjs_2, mjs_3, mjs_ble, true_and, Bool.false_eq_true, if_false, if_true, Nat.reduceAdd, Nat.reduceSub, Nat.reduceLeDiff, false_implies, true_implies, not_false_eq_true, not_true_eq_false, and_true, mm_sh, hm, mjs_up_at, mjs_up_c, mjs_up_f, c5]
        refine mj_blk rfl ?_
        simp +decide only [mjs_0, mjs_1, mjs_2, mjs_3, mjs_ble, true_and, Bool.false_eq_true, if_false, if_true, Nat.reduceAdd, Nat.reduceSub, Nat.reduceLeDiff, false_implies, true_implies, not_false_eq_true, not_true_eq_false, and_true, mm_sh, hm, mjs_up_at, mjs_up_c, mjs_up_f, a4, a2]
        exact hq _ _ _ (r_dr H J1 lp a1 a4 a5 2)
    · by_cases c14 : ctg S c = 14
      · -- a comment
        refine mj_blk rfl ?_
        simp +decide only [mjs_0, mjs_1, mjs_2, mjs_3, mjs_ble, true_and, Bool.false_eq_true, if_false, if_true, Nat.reduceAdd, Nat.reduceSub, Nat.reduceLeDiff, false_implies, true_implies, not_false_eq_true, not_true_eq_false, and_true, c14]
        refine mj_blk rfl ?_
        simp +decide only [mjs_0, mjs_1, mjs_2, mjs_3, mjs_ble, true_and, Bool.false_eq_true, if_false, if_true, Nat.reduceAdd, Nat.reduceSub, Nat.reduceLeDiff, false_implies, true_implies, not_false_eq_true, not_true_eq_false, and_true]
        refine mj_blk rfl ?_
        simp +decide only [mjs_0, mjs_1, mjs_2, mjs_3, mjs_ble, true_and, Bool.false_eq_true, if_false, if_true, Nat.reduceAdd, Nat.reduceSub, Nat.reduceLeDiff, false_implies, true_implies, not_false_eq_true, not_true_eq_false, and_true]
        refine mj_blk rfl ?_
        simp +decide only [mjs_0, mjs_1, mjs_2, mjs_3, mjs_ble, true_and, Bool.false_eq_true, if_false, if_true, Nat.reduceAdd, Nat.reduceSub, Nat.reduceLeDiff, false_implies, true_implies, not_false_eq_true, not_true_eq_false, and_true, mc_sh, hr, mjs_up_at, mjs_up_c, mjs_up_f]
        refine e86 _ _ ?_
        simp +decide only [mjs_0, mjs_1, mjs_2, mjs_3, mjs_ble, true_and, Bool.false_eq_true, if_false, if_true, Nat.reduceAdd, Nat.reduceSub, Nat.reduceLeDiff, false_implies, true_implies, not_false_eq_true, not_true_eq_false, and_true]
        refine mj_blk rfl ?_
        simp +decide only [mjs_0, mjs_1, mjs_2, mjs_3, mjs_ble, true_and, Bool.false_eq_true, if_false, if_true, Nat.reduceAdd, Nat.reduceSub, Nat.reduceLeDiff, false_implies, true_implies, not_false_eq_true, not_true_eq_false, and_true]
        refine mj_blk rfl ?_
        simp +decide only [mjs_0, mjs_1, mjs_2, mjs_3, mjs_ble, true_and, Bool.false_eq_true, if_false, if_true, Nat.reduceAdd, Nat.reduceSub, Nat.reduceLeDiff, false_implies, true_implies, not_false_eq_true, not_true_eq_false, and_true]
        refine mj_blk rfl ?_
        simp +decide only [mjs_0, mjs_1, mjs_2, mjs_3, mjs_ble, true_and, Bool.false_eq_true, if_false, if_true, Nat.reduceAdd, Nat.reduceSub, Nat.reduceLeDiff, false_implies, true_implies, not_false_eq_true, not_true_eq_false, and_true]
        refine mj_blk rfl ?_
        simp +decide only [mjs_0, mjs_1, mjs_2, mjs_3, mjs_ble, true_and, Bool.false_eq_true, if_false, if_true, Nat.reduceAdd, Nat.reduceSub, Nat.reduceLeDiff, false_implies, true_implies, not_false_eq_true, not_true_eq_false, and_true]
        refine mj_blk rfl ?_
        simp +decide only [mjs_0, mjs_1, mjs_2, mjs_3, mjs_ble, true_and, Bool.false_eq_true, if_false, if_true, Nat.reduceAdd, Nat.reduceSub, Nat.reduceLeDiff, false_implies, true_implies, not_false_eq_true, not_true_eq_false, and_true]
        refine K256 ([], st, v, n, nl) _ _ _ (tL [] st (zl _)) (vL [] st (zl _) nm hst) (h2 st _ (fun b q hb => u2 _ _ b q hb) (fun q q3 _ => u3 _ _ q q3) mjs_up_at ((u3 _ _ 5 (by decide)).trans l5)) (hgc _ ?_ (Nat.le_of_lt (tL [] st (zl _))))
        intro H Lg d nc ns J1 lp Q a1 a2 a3 a4 a5 hq
        refine mj_blk rfl ?_
        simp +decide only [mjs_0, mjs_1, mjs_2, mjs_3, mjs_ble, true_and, Bool.false_eq_true, if_false, if_true, Nat.reduceAdd, Nat.reduceSub, Nat.reduceLeDiff, false_implies, true_implies, not_false_eq_true, not_true_eq_false, and_true, mm_sh, hm, mjs_up_at, mjs_up_c, mjs_up_f, c14]
        refine mj_blk rfl ?_
        simp +decide only [mjs_0, mjs_1, mjs_2, mjs_3, mjs_ble, true_and, Bool.false_eq_true, if_false, if_true, Nat.reduceAdd, Nat.reduceSub, Nat.reduceLeDiff, false_implies, true_implies, not_false_eq_true, not_true_eq_false, and_true, mm_sh, hm, mjs_up_at, mjs_up_c, mjs_up_f]
        refine mj_blk rfl ?_
        simp +decide only [mjs_0, mjs_1, mjs_2, mjs_3, mjs_ble, true_and, Bool.false_eq_true, if_false, if_true, Nat.reduceAdd, Nat.reduceSub, Nat.reduceLeDiff, false_implies, true_implies, not_false_eq_true, not_true_eq_false, and_true, mm_sh, hm, mjs_up_at, mjs_up_c, mjs_up_f]
        refine mj_blk rfl ?_
        simp +decide only [mjs_0, mjs_1, mjs_2, mjs_3, mjs_ble, true_and, Bool.false_eq_true, if_false, if_true, Nat.reduceAdd, Nat.reduceSub, Nat.reduceLeDiff, false_implies, true_implies, not_false_eq_true, not_true_eq_false, and_true, mm_sh, hm, mjs_up_at, mjs_up_c, mjs_up_f]
        refine mj_blk rfl ?_
        simp +decide only [mjs_0, mjs_1, mjs_2, mjs_3, mjs_ble, true_and, Bool.false_eq_true, if_false, if_true, Nat.reduceAdd, Nat.reduceSub, Nat.reduceLeDiff, false_implies, true_implies, not_false_eq_true, not_true_eq_false, and_true, mm_sh, hm, mjs_up_at, mjs_up_c, mjs_up_f, a4]
        exact hq _ _ _ (r_dr H J1 lp a1 a4 a5 st)
      · by_cases c15 : ctg S c = 15
        · -- no character for a text
          refine mj_blk rfl ?_
          simp +decide only [mjs_0, mjs_1, mjs_2, mjs_3, mjs_ble, true_and, Bool.false_eq_true, if_false, if_true, Nat.reduceAdd, Nat.reduceSub, Nat.reduceLeDiff, false_implies, true_implies, not_false_eq_true, not_true_eq_false, and_true, c15]
          refine mj_blk rfl ?_
          simp +decide only [mjs_0, mjs_1, mjs_2, mjs_3, mjs_ble, true_and, Bool.false_eq_true, if_false, if_true, Nat.reduceAdd, Nat.reduceSub, Nat.reduceLeDiff, false_implies, true_implies, not_false_eq_true, not_true_eq_false, and_true, mc_sh, hr, mjs_up_at, mjs_up_c, mjs_up_f]
          refine c_80 s59_1 hr' ?_
          simp +decide only [mjs_0, mjs_1, mjs_2, mjs_3, mjs_ble, true_and, Bool.false_eq_true, if_false, if_true, Nat.reduceAdd, Nat.reduceSub, Nat.reduceLeDiff, false_implies, true_implies, not_false_eq_true, not_true_eq_false, and_true]
          refine hb.2.2 (K, [], E, N, S, M, C, O, (r, st, v, n, nl)) _ (rc_f (vL r st (Nat.le_refl _) rmem hst) (h1 st _ (fun b q hb => mjs_up_c hb) (fun q q3 _ => mjs_up_f q3) mjs_up_at ((mjs_up_f (by decide)).trans l5))) ?_
          intro H Lg d nc ns J Q hJ hq
          refine r55 H Lg d nc ns J Q hJ (fun J1 lp a1 a2 a3 a4 a5 => ⟨fun e => absurd e hn0, fun _ => ?_⟩)
          refine mj_blk rfl ?_
          simp +decide only [mjs_0, mjs_1, mjs_2, mjs_3, mjs_ble, true_and, Bool.false_eq_true, if_false, if_true, Nat.reduceAdd, Nat.reduceSub, Nat.reduceLeDiff, false_implies, true_implies, not_false_eq_true, not_true_eq_false, and_true, mm_sh, hm, mjs_up_at, mjs_up_c, mjs_up_f, c15]
          refine mj_blk rfl ?_
          simp +decide only [mjs_0, mjs_1, mjs_2, mjs_3, mjs_ble, true_and, Bool.false_eq_true, if_false, if_true, Nat.reduceAdd, Nat.reduceSub, Nat.reduceLeDiff, false_implies, true_implies, not_false_eq_true, not_true_eq_false, and_true, mm_sh, hm, mjs_up_at, mjs_up_c, mjs_up_f]
          refine mj_blk rfl ?_
          simp +decide only [mjs_0, mjs_1, mjs_2, mjs_3, mjs_ble, true_and, Bool.false_eq_true, if_false, if_true, Nat.reduceAdd, Nat.reduceSub, Nat.reduceLeDiff, false_implies, true_implies, not_false_eq_true, not_true_eq_false, and_true, mm_sh, hm, mjs_up_at, mjs_up_c, mjs_up_f]
          refine mj_blk rfl ?_
          simp +decide only [mjs_0, mjs_1, mjs_2, mjs_3, mjs_ble, true_and, Bool.false_eq_true, if_false, if_true, Nat.reduceAdd, Nat.reduceSub, Nat.reduceLeDiff, false_implies, true_implies, not_false_eq_true, not_true_eq_false, and_true, mm_sh, hm, mjs_up_at, mjs_up_c, mjs_up_f]
          refine mj_blk rfl ?_
          simp +decide only [mjs_0, mjs_1, mjs_2, mjs_3, mjs_ble, true_and, Bool.false_eq_true, if_false, if_true, Nat.reduceAdd, Nat.reduceSub, Nat.reduceLeDiff, false_implies, true_implies, not_false_eq_true, not_true_eq_false, and_true, mm_sh, hm, mjs_up_at, mjs_up_c, mjs_up_f]
          refine mj_blk rfl ?_
          simp +decide only [mjs_0, mjs_1, mjs_2, mjs_3, mjs_ble, true_and, Bool.false_eq_true, if_false, if_true, Nat.reduceAdd, Nat.reduceSub, Nat.reduceLeDiff, false_implies, true_implies, not_false_eq_true, not_true_eq_false, and_true, mm_sh, hm, mjs_up_at, mjs_up_c, mjs_up_f]
          refine c_106 s59_36 ?_
          rw [if_pos a1.1.2.2.2]
          simp +decide only [mjs_0, mjs_1, mjs_2, mjs_3, mjs_ble, true_and, Bool.false_eq_true, if_false, if_true, Nat.reduceAdd, Nat.reduceSub, Nat.reduceLeDiff, false_implies, true_implies, not_false_eq_true, not_true_eq_false, and_true, mm_sh, hm, mjs_up_at, mjs_up_c, mjs_up_f]
          exact hq _ (rr_f (f := 1) (by decide) (by decide) a1)
        · have n5 : ¬ nI (ctg S c) = 5 := fun e => c5 ((ne 5 (by decide) 5 rfl).mp e)
          have n14 : ¬ nI (ctg S c) = 14 := fun e => c14 ((ne 14 (by decide) 14 rfl).mp e)
          have n15 : ¬ nI (ctg S c) = 15 := fun e => c15 ((ne 15 (by decide) 15 rfl).mp e)
          refine mj_blk rfl ?_
          simp +decide only [mjs_0, mjs_1, mjs_2, mjs_3, mjs_ble, true_and, Bool.false_eq_true, if_false, if_true, Nat.reduceAdd, Nat.reduceSub, Nat.reduceLeDiff, false_implies, true_implies, not_false_eq_true, not_true_eq_false, and_true]
          refine ⟨fun _ => mj_blk rfl ?_, fun q => absurd n15 q⟩
          simp +decide only [mjs_0, mjs_1, mjs_2, mjs_3, mjs_ble, true_and, Bool.false_eq_true, if_false, if_true, Nat.reduceAdd, Nat.reduceSub, Nat.reduceLeDiff, false_implies, true_implies, not_false_eq_true, not_true_eq_false, and_true]
          refine ⟨fun q => absurd q n5, fun _ => mj_blk rfl ?_⟩
          simp +decide only [mjs_0, mjs_1, mjs_2, mjs_3, mjs_ble, true_and, Bool.false_eq_true, if_false, if_true, Nat.reduceAdd, Nat.reduceSub, Nat.reduceLeDiff, false_implies, true_implies, not_false_eq_true, not_true_eq_false, and_true]
          refine ⟨fun _ => mj_blk rfl ?_, fun q => absurd n14 q⟩
          simp +decide only [mjs_0, mjs_1, mjs_2, mjs_3, mjs_ble, true_and, Bool.false_eq_true, if_false, if_true, Nat.reduceAdd, Nat.reduceSub, Nat.reduceLeDiff, false_implies, true_implies, not_false_eq_true, not_true_eq_false, and_true]
          refine ⟨fun _ => mj_blk rfl ?_, fun q => absurd n5 q⟩
          by_cases c10' : ctg S c = 10
          · -- a blank
            simp +decide only [mjs_0, mjs_1, mjs_2, mjs_3, mjs_ble, true_and, Bool.false_eq_true, if_false, if_true, Nat.reduceAdd, Nat.reduceSub, Nat.reduceLeDiff, false_implies, true_implies, not_false_eq_true, not_true_eq_false, and_true, c10']
            refine mj_blk rfl ?_
            by_cases s1 : st = 1
            · subst s1
              simp +decide only [mjs_0, mjs_1, mjs_2, mjs_3, mjs_ble, true_and, Bool.false_eq_true, if_false, if_true, Nat.reduceAdd, Nat.reduceSub, Nat.reduceLeDiff, false_implies, true_implies, not_false_eq_true, not_true_eq_false, and_true, mc_sh, hr, mjs_up_at, mjs_up_c, mjs_up_f, l5]
              refine mj_blk rfl ?_
              simp +decide only [mjs_0, mjs_1, mjs_2, mjs_3, mjs_ble, true_and, Bool.false_eq_true, if_false, if_true, Nat.reduceAdd, Nat.reduceSub, Nat.reduceLeDiff, false_implies, true_implies, not_false_eq_true, not_true_eq_false, and_true, mc_sh, hr, mjs_up_at, mjs_up_c, mjs_up_f]
              refine hb.1 2592 N (r, 2, v, n, nl) _ (vL r 2 (Nat.le_refl _) rmem (by decide)) (h1 2 _ (fun b q hb => (mjs_up_c hb).trans (mjs_up_c hb)) (fun q q3 q5 => (mjs_up_f q5).trans (mjs_up_f q3)) ((mjs_up_f (by decide)).trans mjs_up_at) mjs_up_at) nx_rf (tL r 2 (Nat.le_refl _)) (tv_ch (q := 10) (c := 32) (by decide) (by decide)) (hg _ _ ?_)
              intro H Lg d nc ns J1 lp Q a1 a2 a3 a4 a5 hq
              refine mj_blk rfl ?_
              simp +decide only [mjs_0, mjs_1, mjs_2, mjs_3, mjs_ble, true_and, Bool.false_eq_true, if_false, if_true, Nat.reduceAdd, Nat.reduceSub, Nat.reduceLeDiff, false_implies, true_implies, not_false_eq_true, not_true_eq_false, and_true, mm_sh, hm, mjs_up_at, mjs_up_c, mjs_up_f, c10']
              refine mj_blk rfl ?_
              simp +decide only [mjs_0, mjs_1, mjs_2, mjs_3, mjs_ble, true_and, Bool.false_eq_true, if_false, if_true, Nat.reduceAdd, Nat.reduceSub, Nat.reduceLeDiff, false_implies, true_implies, not_false_eq_true, not_true_eq_false, and_true, mm_sh, hm, mjs_up_at, mjs_up_c, mjs_up_f]
              refine mj_blk rfl ?_
              simp +decide only [mjs_0, mjs_1, mjs_2, mjs_3, mjs_ble, true_and, Bool.false_eq_true, if_false, if_true, Nat.reduceAdd, Nat.reduceSub, Nat.reduceLeDiff, false_implies, true_implies, not_false_eq_true, not_true_eq_false, and_true, mm_sh, hm, mjs_up_at, mjs_up_c, mjs_up_f, a2]
              refine mj_blk rfl ?_
              simp +decide only [mjs_0, mjs_1, mjs_2, mjs_3, mjs_ble, true_and, Bool.false_eq_true, if_false, if_true, Nat.reduceAdd, Nat.reduceSub, Nat.reduceLeDiff, false_implies, true_implies, not_false_eq_true, not_true_eq_false, and_true, mm_sh, hm, mjs_up_at, mjs_up_c, mjs_up_f]
              exact hq _ (r_st H J1 _ 2 a1 rfl)
            · have n1 : ¬ nI st = 1 := fun e => s1 ((nI_eq (by omega) (by decide)).mp (show nI st = nI 1 from e))
              simp +decide only [mjs_0, mjs_1, mjs_2, mjs_3, mjs_ble, true_and, Bool.false_eq_true, if_false, if_true, Nat.reduceAdd, Nat.reduceSub, Nat.reduceLeDiff, false_implies, true_implies, not_false_eq_true, not_true_eq_false, and_true, mc_sh, hr, mjs_up_at, mjs_up_c, mjs_up_f, l5]
              refine ⟨fun _ => ?_, fun q => absurd n1 q⟩
              refine K256 (r, st, v, n, nl) _ _ _ (tL r st (Nat.le_refl _)) (vL r st (Nat.le_refl _) rmem hst) (h1 st _ (fun b q hb => mjs_up_c hb) (fun q q3 _ => mjs_up_f q3) mjs_up_at ((mjs_up_f (by decide)).trans l5)) (hgc _ ?_ (Nat.le_of_lt (tL r st (Nat.le_refl _))))
              intro H Lg d nc ns J1 lp Q a1 a2 a3 a4 a5 hq
              refine mj_blk rfl ?_
              simp +decide only [mjs_0, mjs_1, mjs_2, mjs_3, mjs_ble, true_and, Bool.false_eq_true, if_false, if_true, Nat.reduceAdd, Nat.reduceSub, Nat.reduceLeDiff, false_implies, true_implies, not_false_eq_true, not_true_eq_false, and_true, mm_sh, hm, mjs_up_at, mjs_up_c, mjs_up_f, c10']
              refine mj_blk rfl ?_
              simp +decide only [mjs_0, mjs_1, mjs_2, mjs_3, mjs_ble, true_and, Bool.false_eq_true, if_false, if_true, Nat.reduceAdd, Nat.reduceSub, Nat.reduceLeDiff, false_implies, true_implies, not_false_eq_true, not_true_eq_false, and_true, mm_sh, hm, mjs_up_at, mjs_up_c, mjs_up_f]
              refine mj_blk rfl ?_
              simp +decide only [mjs_0, mjs_1, mjs_2, mjs_3, mjs_ble, true_and, Bool.false_eq_true, if_false, if_true, Nat.reduceAdd, Nat.reduceSub, Nat.reduceLeDiff, false_implies, true_implies, not_false_eq_true, not_true_eq_false, and_true, mm_sh, hm, mjs_up_at, mjs_up_c, mjs_up_f, a2]
              exact ⟨fun _ => hq _ _ _ a1, fun q => absurd n1 q⟩
          · have n10 : ¬ nI (ctg S c) = 10 := fun e => c10' ((ne 10 (by decide) 10 rfl).mp e)
            simp +decide only [mjs_0, mjs_1, mjs_2, mjs_3, mjs_ble, true_and, Bool.false_eq_true, if_false, if_true, Nat.reduceAdd, Nat.reduceSub, Nat.reduceLeDiff, false_implies, true_implies, not_false_eq_true, not_true_eq_false, and_true]
            refine ⟨fun q => absurd q n10, fun _ => mj_blk rfl ?_⟩
            simp +decide only [mjs_0, mjs_1, mjs_2, mjs_3, mjs_ble, true_and, Bool.false_eq_true, if_false, if_true, Nat.reduceAdd, Nat.reduceSub, Nat.reduceLeDiff, false_implies, true_implies, not_false_eq_true, not_true_eq_false, and_true]
            refine ⟨fun _ => mj_blk rfl ?_, fun q => absurd n5 q⟩
            by_cases c9 : ctg S c = 9
            · -- a character that is ignored
              simp +decide only [mjs_0, mjs_1, mjs_2, mjs_3, mjs_ble, true_and, Bool.false_eq_true, if_false, if_true, Nat.reduceAdd, Nat.reduceSub, Nat.reduceLeDiff, false_implies, true_implies, not_false_eq_true, not_true_eq_false, and_true, c9]
              refine K256 (r, st, v, n, nl) _ _ _ (tL r st (Nat.le_refl _)) (vL r st (Nat.le_refl _) rmem hst) (h1 st _ (fun b q hb => mjs_up_c hb) (fun q q3 _ => mjs_up_f q3) mjs_up_at ((mjs_up_f (by decide)).trans l5)) (hgc _ ?_ (Nat.le_of_lt (tL r st (Nat.le_refl _))))
              intro H Lg d nc ns J1 lp Q a1 a2 a3 a4 a5 hq
              refine mj_blk rfl ?_
              simp +decide only [mjs_0, mjs_1, mjs_2, mjs_3, mjs_ble, true_and, Bool.false_eq_true, if_false, if_true, Nat.reduceAdd, Nat.reduceSub, Nat.reduceLeDiff, false_implies, true_implies, not_false_eq_true, not_true_eq_false, and_true, mm_sh, hm, mjs_up_at, mjs_up_c, mjs_up_f, c9]
              refine mj_blk rfl ?_
              simp +decide only [mjs_0, mjs_1, mjs_2, mjs_3, mjs_ble, true_and, Bool.false_eq_true, if_false, if_true, Nat.reduceAdd, Nat.reduceSub, Nat.reduceLeDiff, false_implies, true_implies, not_false_eq_true, not_true_eq_false, and_true, mm_sh, hm, mjs_up_at, mjs_up_c, mjs_up_f]
              refine mj_blk rfl ?_
              simp +decide only [mjs_0, mjs_1, mjs_2, mjs_3, mjs_ble, true_and, Bool.false_eq_true, if_false, if_true, Nat.reduceAdd, Nat.reduceSub, Nat.reduceLeDiff, false_implies, true_implies, not_false_eq_true, not_true_eq_false, and_true, mm_sh, hm, mjs_up_at, mjs_up_c, mjs_up_f]
              refine mj_blk rfl ?_
              simp +decide only [mjs_0, mjs_1, mjs_2, mjs_3, mjs_ble, true_and, Bool.false_eq_true, if_false, if_true, Nat.reduceAdd, Nat.reduceSub, Nat.reduceLeDiff, false_implies, true_implies, not_false_eq_true, not_true_eq_false, and_true, mm_sh, hm, mjs_up_at, mjs_up_c, mjs_up_f]
              refine mj_blk rfl ?_
              simp +decide only [mjs_0, mjs_1, mjs_2, mjs_3, mjs_ble, true_and, Bool.false_eq_true, if_false, if_true, Nat.reduceAdd, Nat.reduceSub, Nat.reduceLeDiff, false_implies, true_implies, not_false_eq_true, not_true_eq_false, and_true, mm_sh, hm, mjs_up_at, mjs_up_c, mjs_up_f]
              refine mj_blk rfl ?_
              simp +decide only [mjs_0, mjs_1, mjs_2, mjs_3, mjs_ble, true_and, Bool.false_eq_true, if_false, if_true, Nat.reduceAdd, Nat.reduceSub, Nat.reduceLeDiff, false_implies, true_implies, not_false_eq_true, not_true_eq_false, and_true, mm_sh, hm, mjs_up_at, mjs_up_c, mjs_up_f]
              exact hq _ _ _ a1
            · have n9 : ¬ nI (ctg S c) = 9 := fun e => c9 ((ne 9 (by decide) 9 rfl).mp e)
              have e4 : (256 : Int32) * nI (ctg S c) = nI (256 * ctg S c) := pk_mul 256 _
              simp +decide only [mjs_0, mjs_1, mjs_2, mjs_3, mjs_ble, true_and, Bool.false_eq_true, if_false, if_true, Nat.reduceAdd, Nat.reduceSub, Nat.reduceLeDiff, false_implies, true_implies, not_false_eq_true, not_true_eq_false, and_true]
              refine ⟨fun q => absurd q n9, fun _ => mj_blk rfl ?_⟩
              simp +decide only [mjs_0, mjs_1, mjs_2, mjs_3, mjs_ble, true_and, Bool.false_eq_true, if_false, if_true, Nat.reduceAdd, Nat.reduceSub, Nat.reduceLeDiff, false_implies, true_implies, not_false_eq_true, not_true_eq_false, and_true]
              refine ⟨fun q => absurd q n14, fun _ => mj_blk rfl ?_⟩
              simp +decide only [mjs_0, mjs_1, mjs_2, mjs_3, mjs_ble, true_and, Bool.false_eq_true, if_false, if_true, Nat.reduceAdd, Nat.reduceSub, Nat.reduceLeDiff, false_implies, true_implies, not_false_eq_true, not_true_eq_false, and_true, mc_sh, hr, mjs_up_at, mjs_up_c, mjs_up_f, e4, nI_add]
              have hq13 : ctg S c ≤ 13 := by omega
              refine hb.1 (256 * ctg S c + c) N (r, 1, v, n, nl) _ (vL r 1 (Nat.le_refl _) rmem (by decide)) (h1 1 _ (fun b q hb => (mjs_up_c hb).trans (mjs_up_c hb)) (fun q q3 q5 => (mjs_up_f q5).trans (mjs_up_f q3)) ((mjs_up_f (by decide)).trans mjs_up_at) mjs_up_at) nx_rf (tL r 1 (Nat.le_refl _)) (tv_ch hq13 hc256) (hg _ _ ?_)
              intro H Lg d nc ns J1 lp Q a1 a2 a3 a4 a5 hq
              refine mj_blk rfl ?_
              simp +decide only [mjs_0, mjs_1, mjs_2, mjs_3, mjs_ble, true_and, Bool.false_eq_true, if_false, if_true, Nat.reduceAdd, Nat.reduceSub, Nat.reduceLeDiff, false_implies, true_implies, not_false_eq_true, not_true_eq_false, and_true, mm_sh, hm, mjs_up_at, mjs_up_c, mjs_up_f]
              refine ⟨fun _ => mj_blk rfl ?_, fun q => absurd n5 q⟩
              simp +decide only [mjs_0, mjs_1, mjs_2, mjs_3, mjs_ble, true_and, Bool.false_eq_true, if_false, if_true, Nat.reduceAdd, Nat.reduceSub, Nat.reduceLeDiff, false_implies, true_implies, not_false_eq_true, not_true_eq_false, and_true, mm_sh, hm, mjs_up_at, mjs_up_c, mjs_up_f]
              refine ⟨fun _ => mj_blk rfl ?_, fun q => absurd n10 q⟩
              by_cases c13 : ctg S c = 13
              · have e5 : (131072 : Int32) + nI c = nI (131072 + c) := nI_add 131072 c
                simp +decide only [mjs_0, mjs_1, mjs_2, mjs_3, mjs_ble, true_and, Bool.false_eq_true, if_false, if_true, Nat.reduceAdd, Nat.reduceSub, Nat.reduceLeDiff, false_implies, true_implies, not_false_eq_true, not_true_eq_false, and_true, mm_sh, hm, mjs_up_at, mjs_up_c, mjs_up_f, c13]
                refine mj_blk rfl ?_
                simp +decide only [mjs_0, mjs_1, mjs_2, mjs_3, mjs_ble, true_and, Bool.false_eq_true, if_false, if_true, Nat.reduceAdd, Nat.reduceSub, Nat.reduceLeDiff, false_implies, true_implies, not_false_eq_true, not_true_eq_false, and_true, mm_sh, hm, mjs_up_at, mjs_up_c, mjs_up_f, e5]
                have er : rt (256 * ctg S c + c) = 131072 + c := by
                  rw [c13]
                  exact rt_ac hc256
                rw [er] at hq
                exact hq _ (r_st H J1 _ 1 a1 rfl)
              · have n13 : ¬ nI (ctg S c) = 13 := fun e => c13 ((ne 13 (by decide) 13 rfl).mp e)
                rw [rt_ch (by omega) hc256] at hq
                simp +decide only [mjs_0, mjs_1, mjs_2, mjs_3, mjs_ble, true_and, Bool.false_eq_true, if_false, if_true, Nat.reduceAdd, Nat.reduceSub, Nat.reduceLeDiff, false_implies, true_implies, not_false_eq_true, not_true_eq_false, and_true, mm_sh, hm, mjs_up_at, mjs_up_c, mjs_up_f]
                refine ⟨fun _ => mj_blk rfl ?_, fun q => absurd n13 q⟩
                simp +decide only [mjs_0, mjs_1, mjs_2, mjs_3, mjs_ble, true_and, Bool.false_eq_true, if_false, if_true, Nat.reduceAdd, Nat.reduceSub, Nat.reduceLeDiff, false_implies, true_implies, not_false_eq_true, not_true_eq_false, and_true, mm_sh, hm, mjs_up_at, mjs_up_c, mjs_up_f]
                refine ⟨fun _ => mj_blk rfl ?_, fun q => absurd n14 q⟩
                simp +decide only [mjs_0, mjs_1, mjs_2, mjs_3, mjs_ble, true_and, Bool.false_eq_true, if_false, if_true, Nat.reduceAdd, Nat.reduceSub, Nat.reduceLeDiff, false_implies, true_implies, not_false_eq_true, not_true_eq_false, and_true, mm_sh, hm, mjs_up_at, mjs_up_c, mjs_up_f]
                refine ⟨fun _ => mj_blk rfl ?_, fun q => absurd n15 q⟩
                simp +decide only [mjs_0, mjs_1, mjs_2, mjs_3, mjs_ble, true_and, Bool.false_eq_true, if_false, if_true, Nat.reduceAdd, Nat.reduceSub, Nat.reduceLeDiff, false_implies, true_implies, not_false_eq_true, not_true_eq_false, and_true, mm_sh, hm, mjs_up_at, mjs_up_c, mjs_up_f]
                refine ⟨fun q => absurd q n9, fun _ => mj_blk rfl ?_⟩
                simp +decide only [mjs_0, mjs_1, mjs_2, mjs_3, mjs_ble, true_and, Bool.false_eq_true, if_false, if_true, Nat.reduceAdd, Nat.reduceSub, Nat.reduceLeDiff, false_implies, true_implies, not_false_eq_true, not_true_eq_false, and_true, mm_sh, hm, mjs_up_at, mjs_up_c, mjs_up_f, e4, nI_add]
                exact hq _ (r_st H J1 _ 1 a1 rfl)
  · -- an escape character
    have hz : ctg S c = 0 := tk_0 (by omega) (Decidable.not_not.mp q0)
    have vs := sc_gvL (S := S) (vL r st (Nat.le_refl _) rmem hst).2.2.2.2.2.2.2
    have gs' : gv (K, [], E, N, S, M, C, O, ((sc S r).2.2.1, (sc S r).2.2.2, v, n, nl)) := gv_L hv vs
    have ts : tl ((sc S r).2.2.1, (sc S r).2.2.2, v, n, nl) < tl (c :: r, st, v, n, nl) := tL _ _ (sc_p S r).1
    have hk1036 : N.2.2 ≤ 1036 := (gv_d hv).2.2.1.2.1
    have h114 : ∀ (H : Nat → Nat → Int32) (Lg : Nat → Nat → Int64) (d nc ns : Nat) (J : Nat → Nat → Int32) (Q : mj_Q), RR H (K, [], E, N, S, M, C, O, (c :: r, st, v, n, nl)) J → (∀ (J1 : Nat → Nat → Int32) (K' : mj_Q), RR H (K, [], E, N, S, M, C, O, (r, st, v, n, nl)) J1 → (∀ (x : Int32) (J' : Nat → Nat → Int32), Q (.inl (some (.int x))) (sh59, J', Lg, Rf, nc, ns) → K' (.inl (some (.int x))) (sh59, J', Lg, Rf, nc, ns)) → mj_call X mj_P (mj_bi X) (d + 3) 114 [.ref 36] (sh59, J1, Lg, Rf, nc, ns) K') → mj_rn X (mj_hd []) (mj_call X mj_P (mj_bi X) (d + 3)) mb_115 20 [some (.ref 36), none, none] [] (sh59, J, Lg, Rf, nc, ns) Q := by
      intro H Lg d nc ns J Q hJ hq
      refine r55 H Lg d nc ns J Q hJ (fun J1 lp a1 a2 a3 a4 a5 => ⟨fun _ => ?_, fun e => absurd hz e⟩)
      refine mj_blk rfl ?_
      simp +decide only [mjs_0, mjs_1, mjs_2, mjs_3, mjs_ble, true_and, Bool.false_eq_true, if_false, if_true, Nat.reduceAdd, Nat.reduceSub, Nat.reduceLeDiff, false_implies, true_implies, not_false_eq_true, not_true_eq_false, and_true, mm_sh, hm, mjs_up_at, mjs_up_c, mjs_up_f]
      refine hq J1 _ a1 (fun x J' hx => ?_)
      simp +decide only [mjs_0, mjs_1, mjs_2, mjs_3, mjs_ble, true_and, Bool.false_eq_true, if_false, if_true, Nat.reduceAdd, Nat.reduceSub, Nat.reduceLeDiff, false_implies, true_implies, not_false_eq_true, not_true_eq_false, and_true, mm_sh, hm, mjs_up_at, mjs_up_c, mjs_up_f]
      exact hx
    have un : ∀ {x y : Nat}, x < N.2.2 → y < N.2.2 → fd_is N.1 N.2.1 (sc S r).2.1 (sc S r).1 x → fd_is N.1 N.2.1 (sc S r).2.1 (sc S r).1 y → x = y := by
      intro x y hx hy h1 h2
      refine (gv_d hv).2.2.1.2.2.2.1 x y hx hy ⟨h1.1.trans h2.1.symm, fun j hj => ?_⟩
      have hj' : j < (sc S r).1 := by rw [← h2.1]; exact hj
      exact (h1.2 j hj').trans (h2.2 j hj').symm
    have K125 : ∀ (I2 : Nat → Nat → Int32) (w5 : Option Value), RC fb vb (K, [], E, N, S, M, C, O, ((sc S r).2.2.1, (sc S r).2.2.2, v, n, nl)) I2 → RBf X Rf mb_115 3 20 [some (.ref 36), none, none] [] (K, [], E, N, S, M, C, O, (c :: r, st, v, n, nl)) (some (.int (-1))) (K, [], E, N, S, M, C, O, ((sc S r).2.2.1, (sc S r).2.2.2, v, n, nl)) → mj_rn X (mj_hd []) (mj_call X mj_P (mj_bi X) (d + 1)) mb_85 125 [some (.ref 17), none, none, none, none, w5, none] [.int (-1)] (sh59, I2, Lg, Rf, nc, ns) Q := by
      intro I2 w5 a1 a2
      refine mj_blk rfl ?_
      simp +decide only [mjs_0, mjs_1, mjs_2, mjs_3, mjs_ble, true_and, Bool.false_eq_true, if_false, if_true, Nat.reduceAdd, Nat.reduceSub, Nat.reduceLeDiff, false_implies, true_implies, not_false_eq_true, not_true_eq_false, and_true, mc_sh, hr, mjs_up_at, mjs_up_c, mjs_up_f]
      refine mj_blk rfl ?_
      simp +decide only [mjs_0, mjs_1, mjs_2, mjs_3, mjs_ble, true_and, Bool.false_eq_true, if_false, if_true, Nat.reduceAdd, Nat.reduceSub, Nat.reduceLeDiff, false_implies, true_implies, not_false_eq_true, not_true_eq_false, and_true, mc_sh, hr, mjs_up_at, mjs_up_c, mjs_up_f]
      refine c_80 s59_1 hr' ?_
      simp +decide only [mjs_0, mjs_1, mjs_2, mjs_3, mjs_ble, true_and, Bool.false_eq_true, if_false, if_true, Nat.reduceAdd, Nat.reduceSub, Nat.reduceLeDiff, false_implies, true_implies, not_false_eq_true, not_true_eq_false, and_true]
      exact hb.2.2 _ _ (rc_f gs' a1) a2
    have K125' : ∀ (x : Nat) (I2 : Nat → Nat → Int32) (w5 : Option Value), x < 1036 → Q (.inl (some (.int (nI (65536 + x))))) (sh59, I2, Lg, Rf, nc, ns) → mj_rn X (mj_hd []) (mj_call X mj_P (mj_bi X) (d + 1)) mb_85 125 [some (.ref 17), none, none, none, none, w5, none] [.int (nI x)] (sh59, I2, Lg, Rf, nc, ns) Q := by
      intro x I2 w5 hx hq
      have e : (65536 : Int32) + nI x = nI (65536 + x) := nI_add 65536 x
      refine mj_blk rfl ?_
      simp +decide only [mjs_0, mjs_1, mjs_2, mjs_3, mjs_ble, true_and, Bool.false_eq_true, if_false, if_true, Nat.reduceAdd, Nat.reduceSub, Nat.reduceLeDiff, false_implies, true_implies, not_false_eq_true, not_true_eq_false, and_true, mc_sh, hr, mjs_up_at, mjs_up_c, mjs_up_f]
      refine ⟨fun _ => mj_blk rfl ?_, fun q => absurd (nI_pos' (by omega)) q⟩
      simp +decide only [mjs_0, mjs_1, mjs_2, mjs_3, mjs_ble, true_and, Bool.false_eq_true, if_false, if_true, Nat.reduceAdd, Nat.reduceSub, Nat.reduceLeDiff, false_implies, true_implies, not_false_eq_true, not_true_eq_false, and_true, mc_sh, hr, mjs_up_at, mjs_up_c, mjs_up_f, e]
      refine mj_blk rfl ?_
      simp +decide only [mjs_0, mjs_1, mjs_2, mjs_3, mjs_ble, true_and, Bool.false_eq_true, if_false, if_true, Nat.reduceAdd, Nat.reduceSub, Nat.reduceLeDiff, false_implies, true_implies, not_false_eq_true, not_true_eq_false, and_true, mc_sh, hr, mjs_up_at, mjs_up_c, mjs_up_f]
      exact hq
    simp +decide only [mjs_0, mjs_1, mjs_2, mjs_3, mjs_ble, true_and, Bool.false_eq_true, if_false, if_true, Nat.reduceAdd, Nat.reduceSub, Nat.reduceLeDiff, false_implies, true_implies, not_false_eq_true, not_true_eq_false, and_true, mc_sh, hr, mjs_up_at, mjs_up_c, mjs_up_f]
    refine c_88 hR (vL r st (Nat.le_refl _) rmem hst) (h1 st _ (fun b q hb => mjs_up_c hb) (fun q q3 _ => mjs_up_f q3) mjs_up_at ((mjs_up_f (by decide)).trans l5)) (fun I2 a1 a2 => ?_)
    simp +decide only [mjs_0, mjs_1, mjs_2, mjs_3, mjs_ble, true_and, Bool.false_eq_true, if_false, if_true, Nat.reduceAdd, Nat.reduceSub, Nat.reduceLeDiff, false_implies, true_implies, not_false_eq_true, not_true_eq_false, and_true, mc_sh, hr, mjs_up_at, mjs_up_c, mjs_up_f]
    refine ⟨fun q => mj_blk rfl ?_, fun q => mj_blk rfl ?_⟩
    · have hlen : (sc S r).1 ≤ 40 := by
        have := (nI_leI (a := min (sc S r).1 41) (b := 40) (by omega) (by decide)).mp q
        omega
      have hmin : min (sc S r).1 41 = (sc S r).1 := by omega
      rw [hmin] at a2 ⊢
      have wp := (sc_p S r).2.2 rmem
      simp +decide only [mjs_0, mjs_1, mjs_2, mjs_3, mjs_ble, true_and, Bool.false_eq_true, if_false, if_true, Nat.reduceAdd, Nat.reduceSub, Nat.reduceLeDiff, false_implies, true_implies, not_false_eq_true, not_true_eq_false, and_true, mc_sh, hr, mjs_up_at, mjs_up_c, mjs_up_f]
      refine cq_57 hR a1 gs' (r := 20) (rn := 41) (a := 0) (w := (sc S r).2.1) rfl (by decide) (by omega) hlen (fun j hj => ⟨by rw [Nat.zero_add]; exact a2 j hj, wp.2 j hj⟩) (fun x hx hi => ?_) (fun hk hno => ?_) (fun hk hno I3 a3 _ => ?_)
      · simp +decide only [mjs_0, mjs_1, mjs_2, mjs_3, mjs_ble, true_and, Bool.false_eq_true, if_false, if_true, Nat.reduceAdd, Nat.reduceSub, Nat.reduceLeDiff, false_implies, true_implies, not_false_eq_true, not_true_eq_false, and_true, mc_sh, hr, mjs_up_at, mjs_up_c, mjs_up_f]
        refine K125' x I2 _ (by omega) (hb.1 (65536 + x) N _ I2 gs' a1 nx_rf ts (tv_nm hx) ?_)
        rw [rt_nm (by omega)]
        intro H Lg d nc ns J Q hJ hq
        refine h114 H Lg d nc ns J Q hJ (fun J1 K' b1 b2 => r_114 hM' (vL r st (Nat.le_refl _) rmem hst) b1 (fun hh => absurd hh (by omega)) (fun _ y hy hi' J' b3 => b2 _ _ ?_) (fun _ _ hno => absurd hi (hno x hx)) (fun _ _ hno => absurd hi (hno x hx)))
        rw [un hy hx hi' hi]
        exact hq J' b3
      · simp +decide only [mjs_0, mjs_1, mjs_2, mjs_3, mjs_ble, true_and, Bool.false_eq_true, if_false, if_true, Nat.reduceAdd, Nat.reduceSub, Nat.reduceLeDiff, false_implies, true_implies, not_false_eq_true, not_true_eq_false, and_true, mc_sh, hr, mjs_up_at, mjs_up_c, mjs_up_f]
        refine K125 I2 _ a1 ?_
        intro H Lg d nc ns J Q hJ hq
        exact h114 H Lg d nc ns J Q hJ (fun J1 K' b1 b2 => r_114 hM' (vL r st (Nat.le_refl _) rmem hst) b1 (fun hh => absurd hh (by omega)) (fun _ y hy hi' => absurd hi' (hno y hy)) (fun _ _ _ J' b3 => b2 _ _ (hq J' b3)) (fun _ hk' => absurd hk (by omega)))
      · simp +decide only [mjs_0, mjs_1, mjs_2, mjs_3, mjs_ble, true_and, Bool.false_eq_true, if_false, if_true, Nat.reduceAdd, Nat.reduceSub, Nat.reduceLeDiff, false_implies, true_implies, not_false_eq_true, not_true_eq_false, and_true, mc_sh, hr, mjs_up_at, mjs_up_c, mjs_up_f]
        refine K125' N.2.2 I3 _ hk (hb.1 (65536 + N.2.2) (nN N (sc S r).2.1 (sc S r).1) _ I3 (nN_gv gs' hk hlen wp.2 hno) a3 nN_nx ts (tv_nm (Nat.lt_succ_self _)) ?_)
        rw [rt_nm hk, rp_id (Or.inr (gv_d hv).2.2.1.1)]
        intro H Lg d nc ns J Q hJ hq
        exact h114 H Lg d nc ns J Q hJ (fun J1 K' b1 b2 => r_114 hM' (vL r st (Nat.le_refl _) rmem hst) b1 (fun hh => absurd hh (by omega)) (fun _ y hy hi' => absurd hi' (hno y hy)) (fun _ hk' => absurd hk (by omega)) (fun _ _ _ J' b3 => b2 _ _ (hq J' b3)))
    · have hlen : 40 < (sc S r).1 := by
        by_cases hh : (sc S r).1 ≤ 40
        · exact absurd (show nI (min (sc S r).1 41) ≤ nI 40 from nI_le (by omega) (by decide)) q
        · omega
      simp +decide only [mjs_0, mjs_1, mjs_2, mjs_3, mjs_ble, true_and, Bool.false_eq_true, if_false, if_true, Nat.reduceAdd, Nat.reduceSub, Nat.reduceLeDiff, false_implies, true_implies, not_false_eq_true, not_true_eq_false, and_true, mc_sh, hr, mjs_up_at, mjs_up_c, mjs_up_f]
      refine K125 I2 _ a1 ?_
      intro H Lg d nc ns J Q hJ hq
      exact h114 H Lg d nc ns J Q hJ (fun J1 K' b1 b2 => r_114 hM' (vL r st (Nat.le_refl _) rmem hst) b1 (fun _ J' b3 => b2 _ _ (hq J' b3)) (fun hh => absurd hh (by omega)) (fun hh => absurd hh (by omega)) (fun hh => absurd hh (by omega)))
/-- the class's lines against the numbers' -/
theorem ln_Ev {f g : Nat → Int32} {n nl e : Nat} (h : ln_E f n nl e) (hfg : ∀ j, nl ≤ j → j < n → (g j = 10 ↔ f j = 10)) : ln_E g n nl e := by
  obtain ⟨h1, h2, h3, h4⟩ := h
  refine ⟨h1, h2, fun j a b hg => h3 j a b ((hfg j a (by omega)).mp hg), ?_⟩
  rcases h4 with h4 | h4
  · exact Or.inl h4
  · by_cases he : e = n
    · exact Or.inl he
    · exact Or.inr ((hfg e h1 (by omega)).mpr h4)
theorem ln_Av {f g : Nat → Int32} {n nl e a : Nat} (h : ln_A f nl e a) (he : e ≤ n) (hfg : ∀ j, nl ≤ j → j < n → (g j = 32 ↔ f j = 32)) : ln_A g nl e a := by
  obtain ⟨h1, h2, h3, h4⟩ := h
  refine ⟨h1, h2, fun j a' b => (hfg j (by omega) (by omega)).mpr (h3 j a' b), ?_⟩
  by_cases ha : a = nl
  · exact Or.inl ha
  · rcases h4 with h4 | h4
    · exact Or.inl h4
    · exact Or.inr (fun hg => h4 ((hfg (a - 1) (by omega) (by omega)).mp hg))
theorem nI_ex (x : Int32) : ∃ k, x = nI k := ⟨x.toBitVec.toNat, by
  have h : (nI x.toBitVec.toNat).toBitVec = x.toBitVec := by
    apply BitVec.eq_of_toNat_eq
    rw [pk_tn x.toBitVec.isLt]
  exact (Int32.toBitVec.inj h).symm⟩
theorem lnL_cons {v : Nat → Nat} {nl a : Nat} : ∃ c r, lnL v nl a = c :: r := by
  cases hh : lnL v nl a with
  | nil =>
    have := lnL_len (v := v) (nl := nl) (a := a)
    rw [hh] at this
    simp at this
  | cons c r => exact ⟨c, r, rfl⟩
theorem p_29s (hR : mj_Rt mp_R Rf) (hM' : mj_Rt mm_R Rf) (hr' : nc + 1 ≤ X.2.2.1 ∧ ns + 6 ≤ X.2.2.2) {b : Int32} {i : Nat} (hi : i ≤ 8000) (hv : gv (K, [], E, N, S, M, C, O, L)) (h : RC fb vb (K, [], E, N, S, M, C, O, L) I) (hb : p_Q X Rf fb vb K E N S M C O L 0 b d nc ns Lg Q)
    (ih : ∀ L' I', tl L' < tl L → gv (K, [], E, N, S, M, C, O, L') → RC fb vb (K, [], E, N, S, M, C, O, L') I' → p_Q X Rf fb vb K E N S M C O L' 0 b d nc ns Lg Q → mj_rn X (mj_hd []) (mj_call X mj_P (mj_bi X) (d + 1)) mb_85 29 [some (.ref 17), some (.int b), some (.int (nI i + 1)), none, none, none, none] [] (sh59, I', Lg, Rf, nc, ns) Q) :
    mj_rn X (mj_hd []) (mj_call X mj_P (mj_bi X) (d + 1)) mb_85 29 [some (.ref 17), some (.int b), some (.int (nI i)), none, none, none, none] [] (sh59, I, Lg, Rf, nc, ns) Q := by
  have hr := mc_rf hR
  have hm := mm_rf hM'
  obtain ⟨cur, st, v, n, nl⟩ := L
  have h' := h
  obtain ⟨hK, hP, hE, hN, hS, hM, hC, hO, hL, hZ⟩ := rc_d (h)
  have hL' := hL
  obtain ⟨l1, l2, l5, ⟨at', le, l3, l4, le1, le2, lc⟩, lt⟩ := hL
  have m1 : I 17 1 = nI n := l1
  have m2 : I 17 2 = nI nl := l2
  have mt : ∀ j, nl ≤ j → j < n → I 18 j = nI (v j) := lt
  have gL := (gv_d hv).2.2.2.2.2.2.2
  have hn : n ≤ 4000 := gL.1.1
  have hnl : nl ≤ 4001 := gL.1.2.1
  refine mj_blk rfl ?_
  simp +decide only [mjs_0, mjs_1, mjs_2, mjs_3, mjs_ble, true_and, Bool.false_eq_true, if_false, if_true, Nat.reduceAdd, Nat.reduceSub, Nat.reduceLeDiff, false_implies, true_implies, not_false_eq_true, not_true_eq_false, and_true]
  refine ⟨fun q => absurd q (nI_nlt (a := 8000) (b := i) (by omega) (by decide)), fun _ => mj_blk rfl ?_⟩
  cases cur with
  | cons c r =>
    have le1 : le + 1 = at' + (r.length + 1) := le1
    simp +decide only [mjs_0, mjs_1, mjs_2, mjs_3, mjs_ble, true_and, Bool.false_eq_true, if_false, if_true, Nat.reduceAdd, Nat.reduceSub, Nat.reduceLeDiff, false_implies, true_implies, not_false_eq_true, not_true_eq_false, and_true, mc_sh, hr, mjs_up_at, mjs_up_c, mjs_up_f, l3, l4]
    refine ⟨fun _ => p_54 hR hM' hv h' hr' (p_Q_to hb (Nat.le_refl _) (fun o g' hB => ?_) (fun o g' hB => ?_)) ih, fun q => absurd (nI_le (by omega) (by omega)) q⟩
    · intro H Lg d nc ns J Q hJ hq
      obtain ⟨k1, k2, k3, ⟨lp, k4, k5, k6, k7⟩, k8, k9⟩ := hJ.2.2.2.2.2.2.2.2.1
      have k5 : J 36 8 = nI (lp + (r.length + 1)) := k5
      have k6 : lp + (r.length + 1) ≤ 4001 := k6
      refine mj_blk rfl ?_
      simp +decide only [mjs_0, mjs_1, mjs_2, mjs_3, mjs_ble, true_and, Bool.false_eq_true, if_false, if_true, Nat.reduceAdd, Nat.reduceSub, Nat.reduceLeDiff, false_implies, true_implies, not_false_eq_true, not_true_eq_false, and_true, mm_sh, hm, mjs_up_at, mjs_up_c, mjs_up_f, k4, k5]
      exact ⟨fun _ => hB H Lg d nc ns J Q hJ hq, fun q => absurd ((nI_eq (by omega) (by omega)).mp (Decidable.not_not.mp q)) (by omega)⟩
    · intro H Lg d nc ns J Q hJ hq
      obtain ⟨k1, k2, k3, ⟨lp, k4, k5, k6, k7⟩, k8, k9⟩ := hJ.2.2.2.2.2.2.2.2.1
      have k5 : J 36 8 = nI (lp + (r.length + 1)) := k5
      have k6 : lp + (r.length + 1) ≤ 4001 := k6
      refine mj_blk rfl ?_
      simp +decide only [mjs_0, mjs_1, mjs_2, mjs_3, mjs_ble, true_and, Bool.false_eq_true, if_false, if_true, Nat.reduceAdd, Nat.reduceSub, Nat.reduceLeDiff, false_implies, true_implies, not_false_eq_true, not_true_eq_false, and_true, mm_sh, hm, mjs_up_at, mjs_up_c, mjs_up_f, k4, k5]
      exact ⟨fun _ => hB H Lg d nc ns J Q hJ hq, fun q => absurd ((nI_eq (by omega) (by omega)).mp (Decidable.not_not.mp q)) (by omega)⟩
  | nil =>
    have le1 : le + 1 = at' := le1
    obtain ⟨ln6, l6⟩ := nI_ex (I 17 6)
    -- the reference begins a line, too
    have r0 : ∀ (H : Nat → Nat → Int32) (Lg : Nat → Nat → Int64) (d nc ns : Nat) (J : Nat → Nat → Int32) (Q : mj_Q), RR H (K, [], E, N, S, M, C, O, ([], st, v, n, nl)) J → (n ≤ nl → Q (.inl (some (.int (-1)))) (sh59, J, Lg, Rf, nc, ns)) → (nl < n → ∀ (e a ln : Nat) (J' : Nat → Nat → Int32), ln ≤ nl → ln_E (J 37) n nl e → ln_A (J 37) nl e a → mr_ln J J' 36 nl ln e a → mj_rn X (mj_hd []) (mj_call X mj_P (mj_bi X) (d + 3)) mb_115 20 [some (.ref 36), none, none] [] (sh59, J', Lg, Rf, nc, ns) Q) → mj_rn X (mj_hd []) (mj_call X mj_P (mj_bi X) (d + 3)) mb_115 0 [some (.ref 36), none, none] [] (sh59, J, Lg, Rf, nc, ns) Q := by
      intro H Lg d nc ns J Q hJ hq1 hq2
      obtain ⟨k1, k2, k3, ⟨lp, k4, k5, k6, k7⟩, ⟨ln, k8, k8'⟩, k9⟩ := hJ.2.2.2.2.2.2.2.2.1
      have k1 : J 36 1 = nI n := k1
      have k2 : J 36 5 = nI nl := k2
      have k5 : J 36 8 = nI lp := k5
      have k6 : lp ≤ 4001 := k6
      refine mj_blk rfl ?_
      simp +decide only [mjs_0, mjs_1, mjs_2, mjs_3, mjs_ble, true_and, Bool.false_eq_true, if_false, if_true, Nat.reduceAdd, Nat.reduceSub, Nat.reduceLeDiff, false_implies, true_implies, not_false_eq_true, not_true_eq_false, and_true, mm_sh, hm, mjs_up_at, mjs_up_c, mjs_up_f, k4, k5]
      refine mj_blk rfl ?_
      simp +decide only [mjs_0, mjs_1, mjs_2, mjs_3, mjs_ble, true_and, Bool.false_eq_true, if_false, if_true, Nat.reduceAdd, Nat.reduceSub, Nat.reduceLeDiff, false_implies, true_implies, not_false_eq_true, not_true_eq_false, and_true, mm_sh, hm, mjs_up_at, mjs_up_c, mjs_up_f]
      refine r_113 (mm_W hM') hn k1 k2 k8 (by dsimp only at k8'; omega) hnl (fun hle => ?_) (fun hlt e a J' b1 b2 b3 => ?_)
      · simp +decide only [mjs_0, mjs_1, mjs_2, mjs_3, mjs_ble, true_and, Bool.false_eq_true, if_false, if_true, Nat.reduceAdd, Nat.reduceSub, Nat.reduceLeDiff, false_implies, true_implies, not_false_eq_true, not_true_eq_false, and_true, mm_sh, hm, mjs_up_at, mjs_up_c, mjs_up_f]
        refine mj_blk rfl ?_
        simp +decide only [mjs_0, mjs_1, mjs_2, mjs_3, mjs_ble, true_and, Bool.false_eq_true, if_false, if_true, Nat.reduceAdd, Nat.reduceSub, Nat.reduceLeDiff, false_implies, true_implies, not_false_eq_true, not_true_eq_false, and_true, mm_sh, hm, mjs_up_at, mjs_up_c, mjs_up_f]
        exact hq1 hle
      · simp +decide only [mjs_0, mjs_1, mjs_2, mjs_3, mjs_ble, true_and, Bool.false_eq_true, if_false, if_true, Nat.reduceAdd, Nat.reduceSub, Nat.reduceLeDiff, false_implies, true_implies, not_false_eq_true, not_true_eq_false, and_true, mm_sh, hm, mjs_up_at, mjs_up_c, mjs_up_f]
        exact hq2 hlt e a ln J' k8' b1 b2 b3
    simp +decide only [mjs_0, mjs_1, mjs_2, mjs_3, mjs_ble, true_and, Bool.false_eq_true, if_false, if_true, Nat.reduceAdd, Nat.reduceSub, Nat.reduceLeDiff, false_implies, true_implies, not_false_eq_true, not_true_eq_false, and_true, mc_sh, hr, mjs_up_at, mjs_up_c, mjs_up_f, l3, l4]
    refine ⟨fun q => absurd q (nI_ge (by omega) (by omega)), fun _ => mj_blk rfl ?_⟩
    simp +decide only [mjs_0, mjs_1, mjs_2, mjs_3, mjs_ble, true_and, Bool.false_eq_true, if_false, if_true, Nat.reduceAdd, Nat.reduceSub, Nat.reduceLeDiff, false_implies, true_implies, not_false_eq_true, not_true_eq_false, and_true, mc_sh, hr, mjs_up_at, mjs_up_c, mjs_up_f]
    refine c_87g s59_17 s59_18 (hR.at (by decide)) hn m1 m2 l6 hnl (fun hle => ?_) (fun hlt e a I' b1 b2 b3 => ?_)
    · simp +decide only [mjs_0, mjs_1, mjs_2, mjs_3, mjs_ble, true_and, Bool.false_eq_true, if_false, if_true, Nat.reduceAdd, Nat.reduceSub, Nat.reduceLeDiff, false_implies, true_implies, not_false_eq_true, not_true_eq_false, and_true, mc_sh, hr, mjs_up_at, mjs_up_c, mjs_up_f]
      refine hb.2.1 ([], st, v, n, nl) I hv h' (by unfold tl; simp only [List.length_nil]; rw [if_neg (by omega)]) ?_ _
      intro H Lg d nc ns J Q hJ hq
      exact r0 H Lg d nc ns J Q hJ (fun _ => hq J hJ) (fun hlt => absurd hlt (by omega))
    · have he1 := b1.1
      have he2 := b1.2.1
      have ha1 := b2.1
      have ha2 := b2.2.1
      have vE : ln_E (fun j => nI (v j)) n nl e := ln_Ev b1 (fun j a' b' => by rw [← mt j a' b'])
      have vA : ln_A (fun j => nI (v j)) nl e a := ln_Av b2 he2 (fun j a' b' => by rw [← mt j a' b'])
      obtain ⟨c1, c2, c3, c4, c5, c6, c7, c8, c9⟩ := b3
      have gl2 : ∀ j, j < n → v j < 256 := gL.2.2
      have hRC : RC fb vb (K, [], E, N, S, M, C, O, (lnL v nl a, 0, v, n, e + 1)) I' := by
        refine rc_L h' (fun b q q1 q2 _ => c1 b q q1 q2) (c2 8 (by decide) (by decide) (by decide) (by decide) (by decide)) ⟨(c2 1 (by decide) (by decide) (by decide) (by decide) (by decide)).trans m1, c3, c6, ⟨nl, a, c4, c5, ?_, by omega, fun i hi => ?_⟩, fun j a' b' => ?_⟩
        · show a + 1 = nl + (lnL v nl a).length
          rw [lnL_len]
          omega
        · simp only at hi ⊢
          rw [lnL_len] at hi
          by_cases hi2 : i < a - nl
          · rw [lnL_at hi2, c9 _ (by omega)]
            exact mt _ (by first | omega | (dsimp only; omega)) (by first | omega | (dsimp only; omega))
          · obtain rfl : i = a - nl := by omega
            rw [lnL_end, show nl + (a - nl) = a by omega, c8]
            rfl
        · simp only at a' b' ⊢
          rw [c9 j (by omega)]
          exact mt j (by first | omega | (dsimp only; omega)) b'
      have hgv : gv (K, [], E, N, S, M, C, O, (lnL v nl a, 0, v, n, e + 1)) := gv_L hv ⟨⟨hn, by first | omega | (dsimp only; omega), Nat.zero_le 2, by rw [lnL_len]; first | omega | (dsimp only; omega)⟩, lnL_mem gl2 (by omega), gl2⟩
      have htl : tl (lnL v nl a, 0, v, n, e + 1) ≤ tl ([], st, v, n, nl) := by
        unfold tl
        simp only [lnL_len, List.length_nil]
        rw [if_pos hlt]
        split <;> omega
      have hRR : ∀ (H J J' : Nat → Nat → Int32) (ln e' a' : Nat), RR H (K, [], E, N, S, M, C, O, ([], st, v, n, nl)) J → ln ≤ nl → ln_E (J 37) n nl e' → ln_A (J 37) nl e' a' → mr_ln J J' 36 nl ln e' a' → RR H (K, [], E, N, S, M, C, O, (lnL v nl a, 0, v, n, e + 1)) J' := by
        intro H J J' ln e' a' hJ hln d1 d2 d3
        obtain ⟨k1, k2, k3, k4, k8, k9⟩ := hJ.2.2.2.2.2.2.2.2.1
        have k9 : ∀ j, nl ≤ j → j < n → J 37 j = bt (v j) := k9
        have vE' : ln_E (fun j => nI (v j)) n nl e' := ln_Ev d1 (fun j x y => by
          rw [k9 j x y]
          have := (bt_of (gl2 j y)).2.1
          exact ⟨fun hh => this.mpr ((nI_eq (by have := gl2 j y; omega) (by decide)).mp (show nI (v j) = nI 10 from hh)), fun hh => by rw [this.mp hh]; rfl⟩)
        obtain rfl : e = e' := ln_E_one vE vE'
        have vA' : ln_A (fun j => nI (v j)) nl e a' := ln_Av d2 he2 (fun j x y => by
          rw [k9 j x y]
          have := (bt_of (gl2 j y)).2.2
          exact ⟨fun hh => this.mpr ((nI_eq (by have := gl2 j y; omega) (by decide)).mp (show nI (v j) = nI 32 from hh)), fun hh => by rw [this.mp hh]; rfl⟩)
        obtain rfl : a = a' := ln_A_one vA vA'
        obtain ⟨f1, f2, f3, f4, f5, f6, f7, f8, f9⟩ := d3
        refine rr_L hJ (fun b q q1 q2 _ => f1 b q q1 q2) (fun q q1 q2 q3 q4 q5 _ => f2 q q1 q2 q3 q4 q5) ⟨(f2 1 (by decide) (by decide) (by decide) (by decide) (by decide)).trans k1, f3, fun _ => f7, ⟨0, f6, ?_, ?_, fun i hi => ?_⟩, ⟨ln + 1, f4, by first | omega | (dsimp only; omega)⟩, fun j x y => ?_⟩
        · simp only [lnL_len]
          rw [f5, Nat.zero_add]
        · simp only [lnL_len]
          omega
        · simp only at hi ⊢
          rw [lnL_len] at hi
          rw [Nat.zero_add]
          by_cases hi2 : i < a - nl
          · rw [lnL_at hi2]
            refine (f8 i hi2).trans ?_
            rw [show J (36 + 1) (nl + i) = J 37 (nl + i) from rfl, k9 (nl + i) (by first | omega | (dsimp only; omega)) (by first | omega | (dsimp only; omega))]
            exact (bt_of (gl2 _ (by omega))).1
          · obtain rfl : i = a - nl := by omega
            rw [lnL_end]
            exact f9
        · simp only at x y ⊢
          rw [f1 37 j (by decide) (by decide)]
          exact k9 j (by first | omega | (dsimp only; omega)) y
      have hb20 : p_Q X Rf fb vb K E N S M C O (lnL v nl a, 0, v, n, e + 1) 20 b d nc ns Lg Q := by
        refine p_Q_to hb htl (fun o g' hB => ?_) (fun o g' hB => ?_)
        · intro H Lg d nc ns J Q hJ hq
          exact r0 H Lg d nc ns J Q hJ (fun hle => absurd hlt (by omega)) (fun _ e' a' ln J' d0 d1 d2 d3 => hB H Lg d nc ns J' Q (hRR H J J' ln e' a' hJ d0 d1 d2 d3) hq)
        · intro H Lg d nc ns J Q hJ hq
          exact r0 H Lg d nc ns J Q hJ (fun hle => absurd hlt (by omega)) (fun _ e' a' ln J' d0 d1 d2 d3 => hB H Lg d nc ns J' Q (hRR H J J' ln e' a' hJ d0 d1 d2 d3) hq)
      obtain ⟨c, r, hcr⟩ := lnL_cons (v := v) (nl := nl) (a := a)
      rw [hcr] at hRC hgv htl hb20
      simp +decide only [mjs_0, mjs_1, mjs_2, mjs_3, mjs_ble, true_and, Bool.false_eq_true, if_false, if_true, Nat.reduceAdd, Nat.reduceSub, Nat.reduceLeDiff, false_implies, true_implies, not_false_eq_true, not_true_eq_false, and_true, mc_sh, hr, mjs_up_at, mjs_up_c, mjs_up_f]
      exact p_54 hR hM' hgv hRC hr' hb20 (fun L' I'' t1 => ih L' I'' (by omega))
theorem p_29 (hR : mj_Rt mp_R Rf) (hM' : mj_Rt mm_R Rf) (hr' : nc + 1 ≤ X.2.2.1 ∧ ns + 6 ≤ X.2.2.2) {b : Int32} : ∀ (m : Nat) (L : sgL) (i : Nat) (I : Nat → Nat → Int32), tl L ≤ m → i + tl L ≤ 8000 → gv (K, [], E, N, S, M, C, O, L) → RC fb vb (K, [], E, N, S, M, C, O, L) I → p_Q X Rf fb vb K E N S M C O L 0 b d nc ns Lg Q → mj_rn X (mj_hd []) (mj_call X mj_P (mj_bi X) (d + 1)) mb_85 29 [some (.ref 17), some (.int b), some (.int (nI i)), none, none, none, none] [] (sh59, I, Lg, Rf, nc, ns) Q := by
  intro m
  induction m with
  | zero =>
    intro L i I hm' hi hv h hb
    exact p_29s hR hM' hr' (by omega) hv h hb (fun L' I' t1 => absurd t1 (by omega))
  | succ m ih =>
    intro L i I hm' hi hv h hb
    refine p_29s hR hM' hr' (by omega) hv h hb (fun L' I' t1 v1 h1 b1 => ?_)
    rw [nI_1]
    exact ih L' (i + 1) I' (by omega) (by omega) v1 h1 b1
end MJGT
