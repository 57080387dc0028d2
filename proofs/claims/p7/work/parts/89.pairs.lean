/-! STEPS OF THE REFERENCE between two states of numbers; the small moves of both -/
/-- from every heap that holds g the reference's method M comes to one that holds g', answering o -/
def RS (X : mj_X) (Rf : Nat → Nat → Option Nat) (k M : Nat) (as : List Value) (g : sg) (o : Option Value) (g' : sg) : Prop := ∀ (H : Nat → Nat → Int32) (Lg : Nat → Nat → Int64) (d nc ns : Nat) (J : Nat → Nat → Int32) (Q : mj_Q), RR H g J → (∀ J', RR H g' J' → Q (.inl o) (sh59, J', Lg, Rf, nc, ns)) → mj_call X mj_P (mj_bi X) (d + k) M as (sh59, J, Lg, Rf, nc, ns) Q
/-- .. comes to a fault at g', answering o -/
def RF (X : mj_X) (Rf : Nat → Nat → Option Nat) (k M : Nat) (as : List Value) (g : sg) (o : Option Value) (g' : sg) : Prop := ∀ (H : Nat → Nat → Int32) (Lg : Nat → Nat → Int64) (d nc ns : Nat) (J : Nat → Nat → Int32) (Q : mj_Q), RR H g J → (∀ J', RD H g' J' → Q (.inl o) (sh59, J', Lg, Rf, nc, ns)) → mj_call X mj_P (mj_bi X) (d + k) M as (sh59, J, Lg, Rf, nc, ns) Q
/-- the same from a block of a method -/
def RB (X : mj_X) (Rf : Nat → Nat → Option Nat) (T : List mj_B) (k pc : Nat) (lv : mj_LV) (st : List Value) (g : sg) (o : Option Value) (g' : sg) : Prop := ∀ (H : Nat → Nat → Int32) (Lg : Nat → Nat → Int64) (d nc ns : Nat) (J : Nat → Nat → Int32) (Q : mj_Q), RR H g J → (∀ J', RR H g' J' → Q (.inl o) (sh59, J', Lg, Rf, nc, ns)) → mj_rn X (mj_hd []) (mj_call X mj_P (mj_bi X) (d + k)) T pc lv st (sh59, J, Lg, Rf, nc, ns) Q
def RBf (X : mj_X) (Rf : Nat → Nat → Option Nat) (T : List mj_B) (k pc : Nat) (lv : mj_LV) (st : List Value) (g : sg) (o : Option Value) (g' : sg) : Prop := ∀ (H : Nat → Nat → Int32) (Lg : Nat → Nat → Int64) (d nc ns : Nat) (J : Nat → Nat → Int32) (Q : mj_Q), RR H g J → (∀ J', RD H g' J' → Q (.inl o) (sh59, J', Lg, Rf, nc, ns)) → mj_rn X (mj_hd []) (mj_call X mj_P (mj_bi X) (d + k)) T pc lv st (sh59, J, Lg, Rf, nc, ns) Q
section MJPR
variable {X : mj_X} {d nc ns : Nat} {Q : mj_Q} {I J H : Nat → Nat → Int32} {Lg : Nat → Nat → Int64} {Rf : Nat → Nat → Option Nat} {fb : Nat → Nat → Int32} {vb : Nat → Int32} {K : Nat × Nat × Nat} {P : List Nat} {E : sgE} {N : sgN} {S : sgS} {M : sgM} {C : sgC} {O : sgO} {L : sgL}
/-- what holds of the class holds behind a fault too -/
theorem rc_f {g : sg} {w : Int32} (hv : gv g) (h : RC fb vb g I) : RCf fb vb g (mj_up I 1 0 w) := by
  obtain ⟨hK, hP, hE, hN, hS, hM, hC, hO, hL, hZ⟩ := h
  exact ⟨hK.1, hN, hS, hO, hZ.2, hv.2.2.1, hv.2.2.2.2.2.2.1, _, hv.2.2.2.2.2.2.2.1.2.2.1, hL.2.2.1⟩
theorem rr_f {g : sg} {f : Nat} (h0 : 0 < f) (hf : f < 2 ^ 31) (h : RR H g J) : RD H g (mj_up J 36 39 (nI f)) := by
  obtain ⟨hK, hP, hE, hN, hS, hM, hC, hO, hL, hZ⟩ := h
  refine ⟨hK.1, ⟨f, h0, hf, rfl⟩, hO.1, ⟨fun c hc => ?_, _, hS.2.2.2.2, hS.1⟩, fun c hc => ?_⟩
  · have := (hS.2.2.1 0 c (Nat.zero_le _) hc).1
    rw [Nat.mul_zero, Nat.zero_add] at this
    exact this
  · rw [← hZ c (Or.inl hc)]
    exact mj_up_off (by omega)
theorem cq_84 (hR : mj_Rt mp_R Rf) (h : RC fb vb (K, P, E, N, S, M, C, O, L) I) {t : Nat} (hl : P.length + 1 < 10100) (hQ : ∀ I', RC fb vb (K, t :: P, E, N, S, M, C, O, L) I' → (∀ b q, b ≠ 17 → b ≠ 19 → I' b q = I b q) → Q (.inl none) (sh59, I', Lg, Rf, nc, ns)) : mj_call X mj_P (mj_bi X) (d + 1) 84 [.ref 17, .int (nI t)] (sh59, I, Lg, Rf, nc, ns) Q := by
  obtain ⟨hK, hP, hE, hN, hS, hM, hC, hO, hL, hZ⟩ := rc_d (h)
  refine c_84 hR (k := P.length) (by omega) hP.1 (hQ _ ⟨hK, ⟨rfl, hl, ?_, ?_⟩, hE, hN, hS, hM, hC, hO, hL, hZ⟩ (fun b q b1 b2 => by rw [mjs_up_c b1, mjs_up_c b2]))
  · show mj_up (mj_up I 19 P.length (nI t)) 17 8 _ 19 P.length = nI t
    rw [mjs_up_c (by decide), mjs_up_at]
  · refine pd_eq hP.2.2 (fun j hj => ?_)
    show mj_up (mj_up I 19 P.length (nI t)) 17 8 _ 19 j = I 19 j
    rw [mjs_up_c (by decide), mjs_up_ne (Or.inr (by omega))]
theorem rq_118 (hM' : mj_Rt mm_R Rf) (h : RR H (K, P, E, N, S, M, C, O, L) J) {t : Nat} (ht : rt t < 2 ^ 31) (hl : P.length < 10600) (hQ : ∀ J', RR H (K, t :: P, E, N, S, M, C, O, L) J' → Q (.inl none) (sh59, J', Lg, Rf, nc, ns)) : mj_call X mj_P (mj_bi X) (d + 1) 118 [.ref 36, .int (nI (rt t))] (sh59, J, Lg, Rf, nc, ns) Q := by
  obtain ⟨hK, hP, hE, hN, hS, hM, hC, hO, hL, hZ⟩ := rr_d (h)
  refine r_118 (mm_W hM') (p := P.length) hl hK.2.2.2 hP.1 ht (hQ _ ⟨hK, ⟨rfl, ?_, ?_⟩, hE, hN, hS, hM, hC, hO, hL, fun c hc => ?_⟩)
  · show mj_up (mj_up J 53 P.length (nI (rt t))) 36 29 _ 53 (P.map rt).length = nI (rt t)
    rw [mjs_up_c (by decide), List.length_map, mjs_up_at]
  · refine pd_eq hP.2 (fun j hj => ?_)
    rw [List.length_map] at hj
    show mj_up (mj_up J 53 P.length (nI (rt t))) 36 29 _ 53 j = J 53 j
    rw [mjs_up_c (by decide), mjs_up_ne (Or.inr (by omega))]
  · rw [← hZ c hc, mj_up_off (by omega), mj_up_off (by omega)]
/-- ticks -/
theorem cq_77 (h : RC fb vb (K, P, E, N, S, M, C, O, L) I) (hv : gv (K, P, E, N, S, M, C, O, L)) (hr : nc + 1 ≤ X.2.2.1 ∧ ns + 6 ≤ X.2.2.2) (hQ1 : K.1 < K.2.1 → ∀ I', RC fb vb ((K.1 + 1, K.2), P, E, N, S, M, C, O, L) I' → Q (.inl none) (sh59, I', Lg, Rf, nc, ns)) (hQ2 : K.1 = K.2.1 → ∀ I', RCf fb vb ((K.1 + 1, K.2), P, E, N, S, M, C, O, L) I' → Q (.inr 500) (sh59, I', Lg, Rf, nc + 1, ns + 6)) : mj_call X mj_P (mj_bi X) (d + 2) 77 [.ref 1] (sh59, I, Lg, Rf, nc, ns) Q := by
  obtain ⟨hK, hP, hE, hN, hS, hM, hC, hO, hL, hZ⟩ := rc_d (h)
  obtain ⟨k1, k2, k3, k4, k5, k6⟩ := hK
  refine mj_enter (z := (1, [], mb_77)) (by decide) rfl rfl ?_
  refine mj_blk rfl ?_
  simp +decide only [mjs_0, mjs_1, mjs_2, mjs_3, mjs_ble, true_and, Bool.false_eq_true, if_false, if_true, Nat.reduceAdd, Nat.reduceSub, Nat.reduceLeDiff, false_implies, true_implies, not_false_eq_true, not_true_eq_false, and_true, mc_sh, mjs_up_at, mjs_up_f, k1, k2, nI_1]
  refine ⟨fun q => mj_blk rfl ?_, fun q => mj_blk rfl ?_⟩
  · have hlt : K.1 + 1 ≤ K.2.1 := (nI_leI (by omega) (by omega)).mp q
    simp +decide only [mjs_0, mjs_1, mjs_2, mjs_3, mjs_ble, true_and, Bool.false_eq_true, if_false, if_true, Nat.reduceAdd, Nat.reduceSub, Nat.reduceLeDiff, false_implies, true_implies, not_false_eq_true, not_true_eq_false, and_true]
    exact hQ1 (by omega) _ ⟨⟨rfl, k2, k3, hlt, k5, k6⟩, hP, hE, hN, hS, hM, hC, hO, hL, hZ⟩
  · have hge : ¬ K.1 + 1 ≤ K.2.1 := fun h => q (nI_le h (by omega))
    simp +decide only [mjs_0, mjs_1, mjs_2, mjs_3, mjs_ble, true_and, Bool.false_eq_true, if_false, if_true, Nat.reduceAdd, Nat.reduceSub, Nat.reduceLeDiff, false_implies, true_implies, not_false_eq_true, not_true_eq_false, and_true, mc_sh]
    refine c_80 s59_1 hr ?_
    simp +decide only [mjs_0, mjs_1, mjs_2, mjs_3, mjs_ble, true_and, Bool.false_eq_true, if_false, if_true, Nat.reduceAdd, Nat.reduceSub, Nat.reduceLeDiff, false_implies, true_implies, not_false_eq_true, not_true_eq_false, and_true]
    exact hQ2 (by omega) _ ⟨rfl, hN, hS, hO, hZ.2, (gv_d hv).2.2.1, (gv_d hv).2.2.2.2.2.2.1, _, (gv_d hv).2.2.2.2.2.2.2.1.2.2.1, hL.2.2.1⟩
theorem rq_132 (hM' : mj_Rt mm_R Rf) (h : RR H (K, P, E, N, S, M, C, O, L) J) (hK5 : K.1 ≤ K.2.1 ∧ K.2.1 ≤ 30000) (hQ1 : K.1 < K.2.1 → ∀ J', RR H ((K.1 + 1, K.2), P, E, N, S, M, C, O, L) J' → Q (.inl none) (sh59, J', Lg, Rf, nc, ns)) (hQ2 : K.1 = K.2.1 → ∀ J', RD H ((K.1 + 1, K.2), P, E, N, S, M, C, O, L) J' → Q (.inl none) (sh59, J', Lg, Rf, nc, ns)) : mj_call X mj_P (mj_bi X) (d + 2) 132 [.ref 36] (sh59, J, Lg, Rf, nc, ns) Q := by
  obtain ⟨hK, hP, hE, hN, hS, hM, hC, hO, hL, hZ⟩ := rr_d (h)
  refine r_132 (mm_W hM') (t := K.1) (mo := K.2.1) (by omega) (by omega) hK.1 hK.2.1 hK.2.2.2 (fun hle => hQ1 (by omega) _ ⟨⟨rfl, hK.2⟩, hP, hE, hN, hS, hM, hC, hO, hL, fun c hc => ?_⟩) (fun hle => hQ2 (by omega) _ ?_)
  · rw [← hZ c hc, mj_up_off (by omega)]
  · exact rr_f (f := 10) (g := ((K.1 + 1, K.2), P, E, N, S, M, C, O, L)) (by decide) (by decide) ⟨⟨rfl, hK.2⟩, hP, hE, hN, hS, hM, hC, hO, hL, fun c hc => by rw [← hZ c hc, mj_up_off (by omega)]⟩
/-- OUT -/
theorem cq_61 (hR : mj_Rt mp_R Rf) (h : RC fb vb (K, P, E, N, S, M, C, O, L) I) (hv : gv (K, P, E, N, S, M, C, O, L)) {b : Nat} (hr : nc + 1 ≤ X.2.2.1 ∧ ns + 6 ≤ X.2.2.2) (hQ1 : O.1 < 8000 → ∀ I', RC fb vb (K, P, E, N, S, M, C, (O.1 + 1, ud O.2 O.1 b), L) I' → Q (.inl none) (sh59, I', Lg, Rf, nc, ns)) (hQ2 : O.1 = 8000 → ∀ I', RCf fb vb (K, P, E, N, S, M, C, O, L) I' → Q (.inr 500) (sh59, I', Lg, Rf, nc + 1, ns + 6)) : mj_call X mj_P (mj_bi X) (d + 2) 61 [.ref 34, .int (nI b)] (sh59, I, Lg, Rf, nc, ns) Q := by
  have h' := h
  obtain ⟨hK, hP, hE, hN, hS, hM, hC, hO, hL, hZ⟩ := rc_d (h)
  refine c_61 hR (k := O.1) (gv_d hv).2.2.2.2.2.2.1.1 hO.1 hr (fun hlt => hQ1 hlt _ ⟨hK, hP, hE, hN, hS, hM, hC, ⟨rfl, fun j hj => ?_⟩, hL, hZ⟩) (fun he => hQ2 he _ (rc_f hv h'))
  show mj_up (mj_up I 35 O.1 (nI b)) 34 1 _ 35 j = nI (ud O.2 O.1 b j)
  rw [mjs_up_c (by decide)]
  by_cases e : j = O.1
  · rw [e, mjs_up_at, ud_at]
  · rw [mjs_up_ne (Or.inr e), ud_ne e]
    exact hO.2 j (by simp only at hj; omega)
theorem rq_163 (hM' : mj_Rt mm_R Rf) (h : RR H (K, P, E, N, S, M, C, O, L) J) (hO8 : O.1 ≤ 8000) {b : Nat} (hQ1 : O.1 < 8000 → ∀ J', RR H (K, P, E, N, S, M, C, (O.1 + 1, ud O.2 O.1 b), L) J' → Q (.inl none) (sh59, J', Lg, Rf, nc, ns)) (hQ2 : O.1 = 8000 → ∀ J', RD H (K, P, E, N, S, M, C, O, L) J' → Q (.inl none) (sh59, J', Lg, Rf, nc, ns)) : mj_call X mj_P (mj_bi X) (d + 2) 163 [.ref 36, .int (nI b)] (sh59, J, Lg, Rf, nc, ns) Q := by
  have h' := h
  obtain ⟨hK, hP, hE, hN, hS, hM, hC, hO, hL, hZ⟩ := rr_d (h)
  refine r_163 (mm_W hM') (k := O.1) hO8 hO.1.1 hK.2.2.2 (fun hlt => hQ1 hlt _ ⟨hK, hP, hE, hN, hS, hM, hC, ⟨⟨rfl, fun j hj => ?_⟩, hO.2⟩, hL, fun c hc => ?_⟩) (fun he => hQ2 he _ (rr_f (f := 2) (by decide) (by decide) h'))
  · show mj_up (mj_up J 38 O.1 _) 36 3 _ 38 j = bt (ud O.2 O.1 b j)
    rw [mjs_up_c (by decide)]
    by_cases e : j = O.1
    · rw [e, mjs_up_at, ud_at]
      rfl
    · rw [mjs_up_ne (Or.inr e), ud_ne e]
      exact hO.1.2 j (by simp only at hj; omega)
  · rw [← hZ c hc, mj_up_off (by omega), mj_up_off (by omega)]
end MJPR
