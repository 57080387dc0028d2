/-! A NAME READ BEHIND ITS ESCAPE CHARACTER, in both -/
def ctg (S : sgS) (c : Nat) : Nat := (S.1 S.2.2.1 (256 + c)).toNatClampNeg
theorem ctg_of {k made : Nat} {S : sgS} (h : gvS k made S) {c : Nat} (hc : c < 256) : S.1 S.2.2.1 (256 + c) = nI (ctg S c) ∧ ctg S c ≤ 15 := by
  obtain ⟨q, h1, h2⟩ := h.2.1 S.2.2.1 c (Nat.le_refl _) hc
  unfold ctg
  rw [h2, nI_clamp (by omega)]
  exact ⟨rfl, h1⟩
/-- letters taken: how many, which, and what is left -/
def sw (S : sgS) : List Nat → Nat → (Nat → Nat) → Nat × (Nat → Nat) × List Nat
  | [], k, w => (k, w, [])
  | c :: r, k, w => if ctg S c = 11 then sw S r (k + 1) (ud w k c) else (k, w, c :: r)
theorem sw_p (S : sgS) : ∀ (cur : List Nat) (k : Nat) (w : Nat → Nat), k ≤ (sw S cur k w).1 ∧ (sw S cur k w).2.2.length + ((sw S cur k w).1 - k) = cur.length ∧ ((∀ c ∈ cur, c < 256) → (∀ c ∈ (sw S cur k w).2.2, c < 256) ∧ ((∀ j, j < k → w j < 256) → ∀ j, j < (sw S cur k w).1 → (sw S cur k w).2.1 j < 256))
  | [], k, w => ⟨Nat.le_refl _, by simp [sw], fun _ => ⟨fun c hc => by simp [sw] at hc, fun h => h⟩⟩
  | c :: r, k, w => by
    unfold sw
    by_cases h : ctg S c = 11
    · rw [if_pos h]
      obtain ⟨h1, h2, h3⟩ := sw_p S r (k + 1) (ud w k c)
      refine ⟨by omega, by rw [List.length_cons]; omega, fun hc => ?_⟩
      obtain ⟨h4, h5⟩ := h3 (fun x hx => hc x (List.mem_cons_of_mem _ hx))
      refine ⟨h4, fun hw => h5 (fun j hj => ?_)⟩
      by_cases e : j = k
      · rw [e, ud_at]
        exact hc c List.mem_cons_self
      · rw [ud_ne e]
        exact hw j (by omega)
    · rw [if_neg h]
      exact ⟨Nat.le_refl _, by simp, fun hc => ⟨hc, fun hw => hw⟩⟩
theorem sw_0 (S : sgS) : ∀ (cur : List Nat) (k : Nat) (w : Nat → Nat), (sw S cur k w).1 = k → sw S cur k w = (k, w, cur)
  | [], k, w, _ => rfl
  | c :: r, k, w, h => by
    unfold sw at h ⊢
    by_cases e : ctg S c = 11
    · rw [if_pos e] at h
      have := (sw_p S r (k + 1) (ud w k c)).1
      omega
    · rw [if_neg e]
/-- a name: its length, its characters, what is left of the line, the state -/
def sc (S : sgS) (cur : List Nat) : Nat × (Nat → Nat) × List Nat × Nat :=
  if (sw S cur 0 (fun _ => 0)).1 = 0 then (match cur with
    | [] => (0, fun _ => 0, [], 1)
    | c :: r => (1, ud (fun _ => 0) 0 c, r, if ctg S c = 10 then 2 else 1)) else ((sw S cur 0 (fun _ => 0)).1, (sw S cur 0 (fun _ => 0)).2.1, (sw S cur 0 (fun _ => 0)).2.2, 2)
theorem sc_p (S : sgS) (cur : List Nat) : (sc S cur).2.2.1.length ≤ cur.length ∧ (sc S cur).2.2.2 ≤ 2 ∧ ((∀ c ∈ cur, c < 256) → (∀ c ∈ (sc S cur).2.2.1, c < 256) ∧ ∀ j, j < (sc S cur).1 → (sc S cur).2.1 j < 256) := by
  have h := sw_p S cur 0 (fun _ => 0)
  unfold sc
  by_cases e : (sw S cur 0 (fun _ => 0)).1 = 0
  · rw [if_pos e]
    cases cur with
    | nil => exact ⟨Nat.le_refl _, Nat.le_succ 1, fun hc => ⟨fun c hc => by simp at hc, fun j hj => absurd hj (Nat.not_lt_zero _)⟩⟩
    | cons c r =>
      refine ⟨by simp, by dsimp only; split <;> decide, fun hc => ⟨fun x hx => hc x (List.mem_cons_of_mem _ hx), fun j hj => ?_⟩⟩
      obtain rfl : j = 0 := by dsimp only at hj; omega
      show ud (fun _ => 0) 0 c 0 < 256
      rw [ud_at]
      exact hc c List.mem_cons_self
  · rw [if_neg e]
    exact ⟨by first | omega | (dsimp only; omega), Nat.le_refl 2, fun hc => ⟨(h.2.2 hc).1, (h.2.2 hc).2 (fun j hj => absurd hj (Nat.not_lt_zero _))⟩⟩
section MJSC
variable {X : mj_X} {d nc ns : Nat} {Q : mj_Q} {I I' J J' H : Nat → Nat → Int32} {Lg : Nat → Nat → Int64} {Rf : Nat → Nat → Option Nat} {fb : Nat → Nat → Int32} {vb : Nat → Int32} {K : Nat × Nat × Nat} {P : List Nat} {E : sgE} {N : sgN} {S : sgS} {M : sgM} {C : sgC} {O : sgO} {L L' : sgL}
theorem rc_L (h : RC fb vb (K, P, E, N, S, M, C, O, L) I) (hf : ∀ b q, b ≠ 17 → b ≠ 18 → b ≠ 20 → I' b q = I b q) (h8 : I' 17 8 = I 17 8) (hL' : rcL L' I') : RC fb vb (K, P, E, N, S, M, C, O, L') I' := by
  obtain ⟨hK, hP, hE, hN, hS, hM, hC, hO, hL, hZ⟩ := rc_d (h)
  have e3 : ∀ b q, mxm [17, 18, 20] b = false → I' b q = I b q := fun b q hb => hf b q (mxm_ne hb (by decide)) (mxm_ne hb (by decide)) (mxm_ne hb (by decide))
  refine mx_on (fun I' => rcL L' I' → I' 17 8 = I 17 8 → RC fb vb (K, P, E, N, S, M, C, O, L') I') [17, 18, 20] e3 ?_ hL' h8
  intro a1 a2
  exact ⟨hK, ⟨a2.trans hP.1, hP.2⟩, hE, hN, hS, hM, hC, hO, a1, hZ⟩
theorem rr_L (h : RR H (K, P, E, N, S, M, C, O, L) J) (hf : ∀ b q, b ≠ 36 → b ≠ 39 → b ≠ 42 → J' b q = J b q) (h3 : ∀ q, q ≠ 5 → q ≠ 6 → q ≠ 8 → q ≠ 9 → q ≠ 10 → q ≠ 15 → J' 36 q = J 36 q) (hL' : rrL L' J') : RR H (K, P, E, N, S, M, C, O, L') J' := by
  obtain ⟨hK, hP, hE, hN, hS, hM, hC, hO, hL, hZ⟩ := rr_d (h)
  have e3 : ∀ b q, mxm [36, 39, 42] b = false → J' b q = J b q := fun b q hb => hf b q (mxm_ne hb (by decide)) (mxm_ne hb (by decide)) (mxm_ne hb (by decide))
  refine mx_on (fun J' => rrL L' J' → (∀ q, q ≠ 5 → q ≠ 6 → q ≠ 8 → q ≠ 9 → q ≠ 10 → q ≠ 15 → J' 36 q = J 36 q) → RR H (K, P, E, N, S, M, C, O, L') J') [36, 39, 42] e3 ?_ hL' h3
  intro a1 a2
  have f : ∀ q, (q ≠ 5 ∧ q ≠ 6 ∧ q ≠ 8 ∧ q ≠ 9 ∧ q ≠ 10 ∧ q ≠ 15) → mx [36, 39, 42] J' J 36 q = J 36 q := fun q hq => a2 q hq.1 hq.2.1 hq.2.2.1 hq.2.2.2.1 hq.2.2.2.2.1 hq.2.2.2.2.2
  obtain ⟨rn, rl, n1, n2⟩ := hN
  exact ⟨⟨(f 36 (by decide)).trans hK.1, (f 37 (by decide)).trans hK.2.1, (f 38 (by decide)).trans hK.2.2.1, (f 39 (by decide)).trans hK.2.2.2⟩, ⟨(f 29 (by decide)).trans hP.1, hP.2⟩, hE, ⟨rn, rl, ⟨(f 11 (by decide)).trans n1.1, n1.2⟩, n2⟩, ⟨(f 17 (by decide)).trans hS.1, hS.2⟩, ⟨(f 27 (by decide)).trans hM.1, (f 22 (by decide)).trans hM.2.1, hM.2.2⟩, ⟨(f 33 (by decide)).trans hC.1, hC.2⟩, ⟨⟨(f 3 (by decide)).trans hO.1.1, hO.1.2⟩, (f 40 (by decide)).trans hO.2⟩, a1, fun c hc => (mx_z hc rfl).trans (hZ c hc)⟩
theorem rc_10 (h : rcS S I) {x : Nat} (hx : x < 1804) : I 10 x = S.1 S.2.2.1 x := by
  obtain ⟨Lv, sl, le, gs, h1, h2⟩ := h
  have := h2 S.2.2.1 x (Nat.le_refl _) hx
  unfold st_T at this
  rw [lv_T_G] at this
  exact this
/-- a character eaten; the line dropped -/
theorem rcL_eat {c st st' n nl : Nat} {r : List Nat} {v : Nat → Nat} (h : rcL (c :: r, st, v, n, nl) I) (h1 : I' 17 1 = I 17 1) (h2 : I' 17 2 = I 17 2) (h4 : I' 17 4 = I 17 4) (h18 : ∀ q, I' 18 q = I 18 q) (h5 : I' 17 5 = nI st') (h3 : I' 17 3 = I 17 3 + 1) : rcL (r, st', v, n, nl) I' := by
  obtain ⟨l1, l2, l5, ⟨at', le, l3, l4, le1, le2, lc⟩, lt⟩ := h
  refine ⟨h1.trans l1, h2.trans l2, h5, ⟨at' + 1, le, by rw [h3, l3, nI_1], h4.trans l4, by rw [List.length_cons] at le1; dsimp only at le1 ⊢; omega, le2, fun i hi => ?_⟩, fun j a b => by rw [h18]; exact lt j a b⟩
  have := lc (i + 1) (by simp only [List.length_cons] at hi ⊢; omega)
  rw [h18, show at' + 1 + i = at' + (i + 1) by omega, this]
  rfl
theorem rcL_drop {st st' n nl : Nat} {r : List Nat} {v : Nat → Nat} (h : rcL (r, st, v, n, nl) I) (h1 : I' 17 1 = I 17 1) (h2 : I' 17 2 = I 17 2) (h4 : I' 17 4 = I 17 4) (h18 : ∀ q, I' 18 q = I 18 q) (h5 : I' 17 5 = nI st') (h3 : I' 17 3 = I 17 4 + 1) : rcL ([], st', v, n, nl) I' := by
  obtain ⟨l1, l2, l5, ⟨at', le, l3, l4, le1, le2, lc⟩, lt⟩ := h
  exact ⟨h1.trans l1, h2.trans l2, h5, ⟨le + 1, le, by rw [h3, l4, nI_1], h4.trans l4, rfl, le2, fun i hi => absurd hi (Nat.not_lt_zero _)⟩, fun j a b => by rw [h18]; exact lt j a b⟩
theorem c_88 (hR : mj_Rt mp_R Rf) {cur : List Nat} {st n nl : Nat} {v : Nat → Nat} (hv : gv (K, P, E, N, S, M, C, O, (cur, st, v, n, nl))) (h : RC fb vb (K, P, E, N, S, M, C, O, (cur, st, v, n, nl)) I)
    (hQ : ∀ I', RC fb vb (K, P, E, N, S, M, C, O, ((sc S cur).2.2.1, (sc S cur).2.2.2, v, n, nl)) I' → (∀ j, j < min (sc S cur).1 41 → I' 20 j = nI ((sc S cur).2.1 j)) → Q (.inl (some (.int (nI (min (sc S cur).1 41))))) (sh59, I', Lg, Rf, nc, ns)) :
    mj_call X mj_P (mj_bi X) (d + 1) 88 [.ref 17] (sh59, I, Lg, Rf, nc, ns) Q := by
  have hr := mc_rf hR
  have gS := (gv_d hv).2.2.2.1
  have L7 : ∀ (r : List Nat) (k st : Nat) (w : Nat → Nat) (I : Nat → Nat → Int32), (∀ c ∈ r, c < 256) → RC fb vb (K, P, E, N, S, M, C, O, (r, st, v, n, nl)) I → (∀ j, j < min k 41 → I 20 j = nI (w j)) →
      (∀ I', RC fb vb (K, P, E, N, S, M, C, O, ((sw S r k w).2.2, (if (sw S r k w).1 = k then st else 2), v, n, nl)) I' → (∀ j, j < min (sw S r k w).1 41 → I' 20 j = nI ((sw S r k w).2.1 j)) → mj_rn X (mj_hd []) (mj_call X mj_P (mj_bi X) d) mb_88 86 [some (.ref 17), some (.int (nI (min (sw S r k w).1 41)))] [] (sh59, I', Lg, Rf, nc, ns) Q) →
      mj_rn X (mj_hd []) (mj_call X mj_P (mj_bi X) d) mb_88 7 [some (.ref 17), some (.int (nI (min k 41)))] [] (sh59, I, Lg, Rf, nc, ns) Q := by
    intro r
    induction r with
    | nil =>
      intro k st w I hc h hw hq
      unfold sw at hq
      rw [if_pos rfl] at hq
      obtain ⟨l1, l2, l5, ⟨at', le, l3, l4, le1, le2, lc⟩, lt⟩ := h.2.2.2.2.2.2.2.2.1
      have le1 : le + 1 = at' := le1
      refine mj_blk rfl ?_
      simp +decide only [mjs_0, mjs_1, mjs_2, mjs_3, mjs_ble, true_and, Bool.false_eq_true, if_false, if_true, Nat.reduceAdd, Nat.reduceSub, Nat.reduceLeDiff, false_implies, true_implies, not_false_eq_true, not_true_eq_false, and_true, mc_sh, hr, mjs_up_at, mjs_up_c, mjs_up_f, l3, l4]
      refine ⟨fun _ => hq I h hw, fun q => absurd (nI_lt (by omega) (by omega)) q⟩
    | cons c r ih =>
      intro k st w I hc h hw hq
      have hc256 : c < 256 := hc c List.mem_cons_self
      have h' := h
      obtain ⟨hK, hP, hE, hN, hS, hM, hC, hO, hL, hZ⟩ := rc_d (h)
      have hL' := hL
      obtain ⟨l1, l2, l5, ⟨at', le, l3, l4, le1, le2, lc⟩, lt⟩ := hL
      have le1 : le + 1 = at' + (r.length + 1) := le1
      have hc0 : I 18 at' = nI c := lc 0 (by simp)
      have ct := ctg_of gS hc256
      have c10 : I 10 (256 + c) = nI (ctg S c) := (rc_10 hS (by omega)).trans ct.1
      have e1 : (nI at').toNatClampNeg = at' := nI_clamp (by omega)
      have e2 : (nI (256 + c)).toNatClampNeg = 256 + c := nI_clamp (by omega)
      have e3 : (256 : Int32) + nI c = nI (256 + c) := nI_add 256 c
      refine mj_blk rfl ?_
      simp +decide only [mjs_0, mjs_1, mjs_2, mjs_3, mjs_ble, true_and, Bool.false_eq_true, if_false, if_true, Nat.reduceAdd, Nat.reduceSub, Nat.reduceLeDiff, false_implies, true_implies, not_false_eq_true, not_true_eq_false, and_true, mc_sh, hr, mjs_up_at, mjs_up_c, mjs_up_f, l3, l4]
      refine ⟨fun q => absurd q (nI_nlt (by omega) (by omega)), fun _ => mj_blk rfl ?_⟩
      simp +decide only [mjs_0, mjs_1, mjs_2, mjs_3, mjs_ble, true_and, Bool.false_eq_true, if_false, if_true, Nat.reduceAdd, Nat.reduceSub, Nat.reduceLeDiff, false_implies, true_implies, not_false_eq_true, not_true_eq_false, and_true, mc_sh, hr, mjs_up_at, mjs_up_c, mjs_up_f, l3, e1, hc0, e3, e2, c10]
      refine ⟨nI_in (by omega) (by decide), nI_in (by omega) (by decide), fun q => ?_, fun q => mj_blk rfl ?_⟩
      · have hne : ctg S c ≠ 11 := fun e => q (by rw [e]; rfl)
        unfold sw at hq
        rw [if_neg hne] at hq
        rw [if_pos rfl] at hq
        exact hq I h' hw
      · have heq : ctg S c = 11 := (nI_eq (by omega) (by decide)).mp (show nI (ctg S c) = nI 11 from Decidable.not_not.mp q)
        unfold sw at hq
        rw [if_pos heq] at hq
        have hk1 := (sw_p S r (k + 1) (ud w k c)).1
        have hst : (if (sw S r (k + 1) (ud w k c)).1 = k then st else 2) = (if (sw S r (k + 1) (ud w k c)).1 = k + 1 then 2 else 2) := by
          rw [if_neg (by omega)]
          split <;> rfl
        rw [hst] at hq
        have L68 : ∀ (m : Nat) (I1 : Nat → Nat → Int32), m = min (k + 1) 41 → (∀ b q, b ≠ 20 → I1 b q = I b q) → (∀ j, j < min (k + 1) 41 → I1 20 j = nI (ud w k c j)) → mj_rn X (mj_hd []) (mj_call X mj_P (mj_bi X) d) mb_88 68 [some (.ref 17), some (.int (nI m))] [] (sh59, I1, Lg, Rf, nc, ns) Q := by
          intro m I1 hm hf hw1
          have g3 : I1 17 3 = nI at' := (hf 17 3 (by decide)).trans l3
          refine mj_blk rfl ?_
          simp +decide only [mjs_0, mjs_1, mjs_2, mjs_3, mjs_ble, true_and, Bool.false_eq_true, if_false, if_true, Nat.reduceAdd, Nat.reduceSub, Nat.reduceLeDiff, false_implies, true_implies, not_false_eq_true, not_true_eq_false, and_true, mc_sh, hr, mjs_up_at, mjs_up_c, mjs_up_f, g3, nI_1]
          rw [hm]
          refine ih (k + 1) 2 (ud w k c) _ (fun x hx => hc x (List.mem_cons_of_mem _ hx)) (rc_L h' (fun b q b1 b2 b3 => ?_) ?_ (rcL_eat hL' ?_ ?_ ?_ (fun q => ?_) ?_ ?_)) (fun j hj => ?_) hq
          · rw [mjs_up_c b1, mjs_up_c b1]
            exact hf b q b3
          · rw [mjs_up_f (by decide), mjs_up_f (by decide)]
            exact hf 17 8 (by decide)
          · rw [mjs_up_f (by decide), mjs_up_f (by decide)]
            exact hf 17 1 (by decide)
          · rw [mjs_up_f (by decide), mjs_up_f (by decide)]
            exact hf 17 2 (by decide)
          · rw [mjs_up_f (by decide), mjs_up_f (by decide)]
            exact hf 17 4 (by decide)
          · rw [mjs_up_c (by decide), mjs_up_c (by decide)]
            exact hf 18 q (by decide)
          · rw [mjs_up_f (by decide), mjs_up_at]
            rfl
          · rw [mjs_up_at, l3, nI_1]
          · rw [mjs_up_c (by decide), mjs_up_c (by decide)]
            exact hw1 j hj
        have em : (nI (min k 41)).toNatClampNeg = min k 41 := nI_clamp (by omega)
        simp +decide only [mjs_0, mjs_1, mjs_2, mjs_3, mjs_ble, true_and, Bool.false_eq_true, if_false, if_true, Nat.reduceAdd, Nat.reduceSub, Nat.reduceLeDiff, false_implies, true_implies, not_false_eq_true, not_true_eq_false, and_true, mc_sh, hr, mjs_up_at, mjs_up_c, mjs_up_f]
        refine ⟨fun q' => ?_, fun q' => mj_blk rfl ?_⟩
        · have hk : 40 < min k 41 := (nI_ltI (by decide) (by omega)).mp (show nI 40 < nI (min k 41) from q')
          refine L68 (min k 41) I (by omega) (fun _ _ _ => rfl) (fun j hj => ?_)
          rw [ud_ne (by omega)]
          exact hw j (by omega)
        · have hk : ¬ 40 < min k 41 := fun hh => q' (show nI 40 < nI (min k 41) from nI_lt hh (by omega))
          simp +decide only [mjs_0, mjs_1, mjs_2, mjs_3, mjs_ble, true_and, Bool.false_eq_true, if_false, if_true, Nat.reduceAdd, Nat.reduceSub, Nat.reduceLeDiff, false_implies, true_implies, not_false_eq_true, not_true_eq_false, and_true, mc_sh, hr, mjs_up_at, mjs_up_c, mjs_up_f, l3, e1, hc0, em, nI_1]
          refine ⟨nI_in (by omega) (by decide), nI_in (by omega) (by decide), L68 (min k 41 + 1) _ (by omega) (fun b q hb => mjs_up_c hb) (fun j hj => ?_)⟩
          by_cases e : j = k
          · have ek : min k 41 = k := by omega
            rw [e, ud_at, ek, mjs_up_at]
          · rw [ud_ne e, mjs_up_ne (Or.inr (by omega))]
            exact hw j (by omega)
  refine mj_enter (z := (2, [], mb_88)) (by decide) rfl rfl ?_
  refine mj_blk rfl ?_
  simp +decide only [mjs_0, mjs_1, mjs_2, mjs_3, mjs_ble, true_and, Bool.false_eq_true, if_false, if_true, Nat.reduceAdd, Nat.reduceSub, Nat.reduceLeDiff, false_implies, true_implies, not_false_eq_true, not_true_eq_false, and_true, mc_sh, hr, mjs_up_at, mjs_up_c, mjs_up_f]
  have h0 : RC fb vb (K, P, E, N, S, M, C, O, (cur, 1, v, n, nl)) (mj_up I 17 5 1) := by
    refine rc_L h (fun b q b1 _ _ => mjs_up_c b1) (mjs_up_f (by decide)) ?_
    obtain ⟨l1, l2, l5, l3, lt⟩ := h.2.2.2.2.2.2.2.2.1
    exact ⟨l1, l2, rfl, l3, lt⟩
  refine L7 cur 0 1 (fun _ => 0) _ (gv_d hv).2.2.2.2.2.2.2.2.1 h0 (fun j hj => absurd hj (by omega)) (fun I1 a1 a2 => ?_)
  unfold sc at hQ
  by_cases hz : (sw S cur 0 (fun _ => 0)).1 = 0
  · rw [if_pos hz] at hQ a1
    have hs := sw_0 S cur 0 (fun _ => 0) hz
    rw [hs] at a1 a2 ⊢
    refine mj_blk rfl ?_
    simp +decide only [mjs_0, mjs_1, mjs_2, mjs_3, mjs_ble, true_and, Bool.false_eq_true, if_false, if_true, Nat.reduceAdd, Nat.reduceSub, Nat.reduceLeDiff, false_implies, true_implies, not_false_eq_true, not_true_eq_false, and_true, mc_sh, hr, mjs_up_at, mjs_up_c, mjs_up_f]
    refine mj_blk rfl ?_
    obtain ⟨l1, l2, l5, ⟨at', le, l3, l4, le1, le2, lc⟩, lt⟩ := a1.2.2.2.2.2.2.2.2.1
    cases cur with
    | nil =>
      have le1 : le + 1 = at' := le1
      simp +decide only [mjs_0, mjs_1, mjs_2, mjs_3, mjs_ble, true_and, Bool.false_eq_true, if_false, if_true, Nat.reduceAdd, Nat.reduceSub, Nat.reduceLeDiff, false_implies, true_implies, not_false_eq_true, not_true_eq_false, and_true, mc_sh, hr, mjs_up_at, mjs_up_c, mjs_up_f, l3, l4]
      refine ⟨fun _ => mj_blk rfl ?_, fun q => absurd (nI_lt (by omega) (by omega)) q⟩
      simp +decide only [mjs_0, mjs_1, mjs_2, mjs_3, mjs_ble, true_and, Bool.false_eq_true, if_false, if_true, Nat.reduceAdd, Nat.reduceSub, Nat.reduceLeDiff, false_implies, true_implies, not_false_eq_true, not_true_eq_false, and_true, mc_sh, hr, mjs_up_at, mjs_up_c, mjs_up_f]
      exact hQ I1 a1 (fun j hj => absurd (show j < min 0 41 from hj) (by omega))
    | cons c r =>
      have le1 : le + 1 = at' + (r.length + 1) := le1
      have hc256 : c < 256 := (gv_d hv).2.2.2.2.2.2.2.2.1 c List.mem_cons_self
      have hc0 : I1 18 at' = nI c := lc 0 (by simp)
      have ct := ctg_of gS hc256
      have c10 : I1 10 (256 + c) = nI (ctg S c) := (rc_10 a1.2.2.2.2.1 (by omega)).trans ct.1
      have e1 : (nI at').toNatClampNeg = at' := nI_clamp (by omega)
      have e2 : (nI (256 + c)).toNatClampNeg = 256 + c := nI_clamp (by omega)
      have e3 : (256 : Int32) + nI c = nI (256 + c) := nI_add 256 c
      have e0 : (0 : Int32).toNatClampNeg = 0 := by decide
      have v0 : vp_in 0 41 := by unfold vp_in; decide
      simp +decide only [mjs_0, mjs_1, mjs_2, mjs_3, mjs_ble, true_and, Bool.false_eq_true, if_false, if_true, Nat.reduceAdd, Nat.reduceSub, Nat.reduceLeDiff, false_implies, true_implies, not_false_eq_true, not_true_eq_false, and_true, mc_sh, hr, mjs_up_at, mjs_up_c, mjs_up_f, l3, l4]
      refine ⟨fun q => absurd q (nI_nlt (by omega) (by omega)), fun _ => mj_blk rfl ?_⟩
      simp +decide only [mjs_0, mjs_1, mjs_2, mjs_3, mjs_ble, true_and, Bool.false_eq_true, if_false, if_true, Nat.reduceAdd, Nat.reduceSub, Nat.reduceLeDiff, false_implies, true_implies, not_false_eq_true, not_true_eq_false, and_true, mc_sh, hr, mjs_up_at, mjs_up_c, mjs_up_f, l3, e1, e0, hc0, e3, e2, c10]
      have K150 : ∀ st', mj_rn X (mj_hd []) (mj_call X mj_P (mj_bi X) d) mb_88 150 [some (.ref 17), some (.int 1)] [.int (nI st'), .ref 17] (sh59, mj_up I1 20 0 (nI c), Lg, Rf, nc, ns) (fun o S' => (∀ I', RC fb vb (K, P, E, N, S, M, C, O, (r, st', v, n, nl)) I' → I' 20 0 = nI c → Q (.inl (some (.int 1))) (sh59, I', Lg, Rf, nc, ns)) → Q o S') := by
        intro st'
        refine mj_blk rfl ?_
        simp +decide only [mjs_0, mjs_1, mjs_2, mjs_3, mjs_ble, true_and, Bool.false_eq_true, if_false, if_true, Nat.reduceAdd, Nat.reduceSub, Nat.reduceLeDiff, false_implies, true_implies, not_false_eq_true, not_true_eq_false, and_true, mc_sh, hr, mjs_up_at, mjs_up_c, mjs_up_f, l3, nI_1]
        refine mj_blk rfl ?_
        simp +decide only [mjs_0, mjs_1, mjs_2, mjs_3, mjs_ble, true_and, Bool.false_eq_true, if_false, if_true, Nat.reduceAdd, Nat.reduceSub, Nat.reduceLeDiff, false_implies, true_implies, not_false_eq_true, not_true_eq_false, and_true, mc_sh, hr, mjs_up_at, mjs_up_c, mjs_up_f]
        intro hq
        refine hq _ (rc_L a1 (fun b q b1 b2 b3 => ?_) ?_ (rcL_eat a1.2.2.2.2.2.2.2.2.1 ?_ ?_ ?_ (fun q => ?_) ?_ ?_)) ?_
        · rw [mjs_up_c b1, mjs_up_c b1, mjs_up_c b3]
        · rw [mjs_up_f (by decide), mjs_up_f (by decide), mjs_up_c (by decide)]
        · rw [mjs_up_f (by decide), mjs_up_f (by decide), mjs_up_c (by decide)]
        · rw [mjs_up_f (by decide), mjs_up_f (by decide), mjs_up_c (by decide)]
        · rw [mjs_up_f (by decide), mjs_up_f (by decide), mjs_up_c (by decide)]
        · rw [mjs_up_c (by decide), mjs_up_c (by decide), mjs_up_c (by decide)]
        · rw [mjs_up_f (by decide), mjs_up_at]
        · rw [mjs_up_at, l3, nI_1]
        · rw [mjs_up_c (by decide), mjs_up_c (by decide), mjs_up_at]
      have fin : ∀ st', st' = (if ctg S c = 10 then 2 else 1) → mj_rn X (mj_hd []) (mj_call X mj_P (mj_bi X) d) mb_88 150 [some (.ref 17), some (.int 1)] [.int (nI st'), .ref 17] (sh59, mj_up I1 20 0 (nI c), Lg, Rf, nc, ns) Q := by
        intro st' hst
        refine mj_rn_mono (mj_call_ok (mj_bi_mono X) (mj_bi_one X) d).1 (mj_call_ok (mj_bi_mono X) (mj_bi_one X) d).2 (fun o S' hh => hh (fun I' b1 b2 => ?_)) (K150 st')
        rw [hst] at b1
        refine hQ I' b1 (fun j hj => ?_)
        obtain rfl : j = 0 := by dsimp only at hj; omega
        rw [b2]
        rfl
      refine ⟨nI_in (by omega) (by decide), v0, nI_in (by omega) (by decide), nI_in (by omega) (by decide), fun q => mj_blk rfl ?_, fun q => mj_blk rfl ?_⟩
      · have hne : ctg S c ≠ 10 := fun e => q (by rw [e]; rfl)
        simp +decide only [mjs_0, mjs_1, mjs_2, mjs_3, mjs_ble, true_and, Bool.false_eq_true, if_false, if_true, Nat.reduceAdd, Nat.reduceSub, Nat.reduceLeDiff, false_implies, true_implies, not_false_eq_true, not_true_eq_false, and_true, mc_sh, hr, mjs_up_at, mjs_up_c, mjs_up_f]
        exact fin 1 (by rw [if_neg hne])
      · have heq : ctg S c = 10 := (nI_eq (by omega) (by decide)).mp (show nI (ctg S c) = nI 10 from Decidable.not_not.mp q)
        simp +decide only [mjs_0, mjs_1, mjs_2, mjs_3, mjs_ble, true_and, Bool.false_eq_true, if_false, if_true, Nat.reduceAdd, Nat.reduceSub, Nat.reduceLeDiff, false_implies, true_implies, not_false_eq_true, not_true_eq_false, and_true, mc_sh, hr, mjs_up_at, mjs_up_c, mjs_up_f]
        exact fin 2 (by rw [if_pos heq])
  · rw [if_neg hz] at hQ a1
    refine mj_blk rfl ?_
    simp +decide only [mjs_0, mjs_1, mjs_2, mjs_3, mjs_ble, true_and, Bool.false_eq_true, if_false, if_true, Nat.reduceAdd, Nat.reduceSub, Nat.reduceLeDiff, false_implies, true_implies, not_false_eq_true, not_true_eq_false, and_true, mc_sh, hr, mjs_up_at, mjs_up_c, mjs_up_f]
    refine ⟨fun _ => mj_blk rfl ?_, fun q => absurd q (fun q => ?_)⟩
    · simp +decide only [mjs_0, mjs_1, mjs_2, mjs_3, mjs_ble, true_and, Bool.false_eq_true, if_false, if_true, Nat.reduceAdd, Nat.reduceSub, Nat.reduceLeDiff, false_implies, true_implies, not_false_eq_true, not_true_eq_false, and_true, mc_sh, hr, mjs_up_at, mjs_up_c, mjs_up_f]
      exact hQ I1 a1 a2
    · exact q (nI_ne0 (by omega) (by omega))
end MJSC
