/-! ARGUMENTS without delimiters, in both -/
def cg (t : Nat) : Nat := if t < 3328 then t / 256 else 16
theorem rt_cg {k t c : Nat} (hk : k ≤ 1036) (h3 : 36 ≤ k) (ht : tv k t) (hc : c < 16) : rt t / 256 = c ↔ cg t = c := by
  unfold cg
  by_cases h : t < 3328
  · have e : rt t = t := by
      unfold rt rb
      rw [if_neg (by omega), if_pos h]
    rw [e, if_pos h]
  · rw [if_neg h]
    have e : 65536 ≤ rt t := by
      rcases ht with ht | ht
      · have h2 := tb_lt hk ht
        unfold rt
        rw [if_neg (by omega)]
        exact (rb_lt hk h3 ht).2.2.2.1 (by omega)
      · have h2 := tb_lt hk ht.2.2
        unfold rt
        rw [if_pos (by omega)]
        omega
    omega
theorem cg_10 {k t : Nat} (ht : tv k t) : t / 256 = 10 ↔ cg t = 10 := by
  unfold tv tb at ht
  unfold cg
  split <;> omega
/-- the arguments 0 .. n - 1: how the class holds them, how the reference does -/
def caA (n : Nat) (A : Nat → (Nat → Nat) × Nat) (fi : Nat) (fb : Nat → Nat → Int32) : Prop := fb 30 3 = nI fi ∧ ∀ k, k < n → ∃ f, fb 32 (k + 1) = nI f ∧ fb 33 (k + 1) = nI (f + (A k).2) ∧ f + (A k).2 ≤ fi ∧ ∀ i, i < (A k).2 → fb 31 (f + i) = nI ((A k).1 i)
def raA (n : Nat) (A : Nat → (Nat → Nat) × Nat) (H : Nat → Nat → Int32) : Prop := ∀ k, k < n → H 55 k = nI (A k).2 ∧ (A k).2 ≤ 10000 ∧ ∀ i, i < (A k).2 → H 54 (11000 * k + i) = nI (rt ((A k).1 i))
def hx (H H' : Nat → Nat → Int32) : Prop := ∀ c, (c < 36 ∨ (48 ≤ c ∧ c ≤ 51)) → H' c = H c
theorem hx_rf {H : Nat → Nat → Int32} : hx H H := fun _ _ => rfl
theorem hx_tr {H H' H'' : Nat → Nat → Int32} (h : hx H H') (h' : hx H' H'') : hx H H'' := fun c hc => (h' c hc).trans (h c hc)
theorem hx_up {H : Nat → Nat → Int32} {a q : Nat} {v : Int32} (ha : 52 ≤ a) : hx H (mj_up H a q v) := fun c hc => mj_up_off (by omega)
theorem rd_hx {H H' J : Nat → Nat → Int32} {g : sg} (h : RD H' g J) (hh : hx H H') : RD H g J := ⟨h.1, h.2.1, h.2.2.1, h.2.2.2.1, fun c hc => (h.2.2.2.2 c hc).trans (hh c (Or.inl hc))⟩
section MJAR
variable {X : mj_X} {d nc ns : Nat} {Q : mj_Q} {I I' J J' H : Nat → Nat → Int32} {Lg : Nat → Nat → Int64} {Rf : Nat → Nat → Option Nat} {fb : Nat → Nat → Int32} {vb : Nat → Int32} {K : Nat × Nat × Nat} {P : List Nat} {E : sgE} {N : sgN} {S : sgS} {M : sgM} {C : sgC} {O : sgO} {L L' : sgL} {t q : Nat} {v : Int32}
theorem rr_54 (h : RR H (K, P, E, N, S, M, C, O, L) J) : RR (mj_up H 54 q v) (K, P, E, N, S, M, C, O, L) (mj_up J 54 q v) := by
  obtain ⟨hK, hP, hE, hN, hS, hM, hC, hO, hL, hZ⟩ := rr_d h
  refine ⟨hK, hP, hE, hN, hS, hM, hC, hO, hL, fun c hc => ?_⟩
  by_cases e : c = 54
  · subst e
    funext k
    unfold mj_up
    rw [if_pos rfl, if_pos rfl, hZ 54 (by omega)]
  · rw [mj_up_off e, mj_up_off e]
    exact hZ c hc
theorem rr_55 (h : RR H (K, P, E, N, S, M, C, O, L) J) : RR (mj_up H 55 q v) (K, P, E, N, S, M, C, O, L) (mj_up J 55 q v) := by
  obtain ⟨hK, hP, hE, hN, hS, hM, hC, hO, hL, hZ⟩ := rr_d h
  refine ⟨hK, hP, hE, hN, hS, hM, hC, hO, hL, fun c hc => ?_⟩
  by_cases e : c = 55
  · subst e
    funext k
    unfold mj_up
    rw [if_pos rfl, if_pos rfl, hZ 55 (by omega)]
  · rw [mj_up_off e, mj_up_off e]
    exact hZ c hc
theorem up_row {f g : Nat → Nat → Int32} {a : Nat} (h : f a = g a) : mj_up f a q v a = mj_up g a q v a := by
  rw [mj_up_row, mj_up_row, h]
theorem rc_30 (h : RC fb vb (K, P, E, N, S, M, C, O, L) I) : RC (mj_up fb 30 q v) vb (K, P, E, N, S, M, C, O, L) (mj_up I 30 q v) := by
  obtain ⟨hK, hP, hE, hN, hS, hM, hC, hO, hL, ⟨z1, z2, z3, z4⟩, hY⟩ := rc_d h
  exact ⟨hK, hP, hE, hN, hS, hM, hC, hO, hL, ⟨up_row z1, z2, z3, z4⟩, hY⟩
theorem rc_31 (h : RC fb vb (K, P, E, N, S, M, C, O, L) I) : RC (mj_up fb 31 q v) vb (K, P, E, N, S, M, C, O, L) (mj_up I 31 q v) := by
  obtain ⟨hK, hP, hE, hN, hS, hM, hC, hO, hL, ⟨z1, z2, z3, z4⟩, hY⟩ := rc_d h
  exact ⟨hK, hP, hE, hN, hS, hM, hC, hO, hL, ⟨z1, up_row z2, z3, z4⟩, hY⟩
theorem rc_32 (h : RC fb vb (K, P, E, N, S, M, C, O, L) I) : RC (mj_up fb 32 q v) vb (K, P, E, N, S, M, C, O, L) (mj_up I 32 q v) := by
  obtain ⟨hK, hP, hE, hN, hS, hM, hC, hO, hL, ⟨z1, z2, z3, z4⟩, hY⟩ := rc_d h
  exact ⟨hK, hP, hE, hN, hS, hM, hC, hO, hL, ⟨z1, z2, up_row z3, z4⟩, hY⟩
theorem rc_33 (h : RC fb vb (K, P, E, N, S, M, C, O, L) I) : RC (mj_up fb 33 q v) vb (K, P, E, N, S, M, C, O, L) (mj_up I 33 q v) := by
  obtain ⟨hK, hP, hE, hN, hS, hM, hC, hO, hL, ⟨z1, z2, z3, z4⟩, hY⟩ := rc_d h
  exact ⟨hK, hP, hE, hN, hS, hM, hC, hO, hL, ⟨z1, z2, z3, up_row z4⟩, hY⟩
theorem rc_fb (h : RC fb vb (K, P, E, N, S, M, C, O, L) I) (q : Nat) : I 30 q = fb 30 q ∧ I 31 q = fb 31 q ∧ I 32 q = fb 32 q ∧ I 33 q = fb 33 q := by
  obtain ⟨z1, z2, z3, z4⟩ := (rc_d h).2.2.2.2.2.2.2.2.2.1
  exact ⟨congrFun z1 q, congrFun z2 q, congrFun z3 q, congrFun z4 q⟩
def aB (fb : Nat → Nat → Int32) (fi : Nat) (t : Nat) : Nat → Nat → Int32 := mj_up (mj_up fb 31 fi (nI t)) 30 3 (nI (fi + 1))
theorem cq_14 (hR : mj_Rt mp_R Rf) (h : RC fb vb (K, P, E, N, S, M, C, O, L) I) {fi : Nat} (h3 : fb 30 3 = nI fi) (hfi : fi < 14101) (hQ : ∀ I', RC (aB fb fi t) vb (K, P, E, N, S, M, C, O, L) I' → Q (.inl none) (sh59, I', Lg, Rf, nc, ns)) : mj_call X mj_P (mj_bi X) (d + 1) 14 [.ref 30, .int (nI t)] (sh59, I, Lg, Rf, nc, ns) Q := by
  have hr := mc_rf hR
  have i3 : I 30 3 = nI fi := ((rc_fb h 3).1).trans h3
  have e0 : (nI fi).toNatClampNeg = fi := nI_clamp (by omega)
  refine mj_enter (z := (2, [], mb_14)) (by decide) rfl rfl ?_
  refine mj_blk rfl ?_
  simp +decide only [mjs_0, mjs_1, mjs_2, mjs_3, mjs_ble, true_and, Bool.false_eq_true, if_false, if_true, Nat.reduceAdd, Nat.reduceSub, Nat.reduceLeDiff, false_implies, true_implies, not_false_eq_true, not_true_eq_false, and_true, mc_sh, hr, mjs_up_at, mjs_up_c, mjs_up_f, i3]
  refine ⟨fun _ => mj_blk rfl ?_, fun q => absurd (show nI fi < nI 14101 from nI_lt hfi (by decide)) q⟩
  simp +decide only [mjs_0, mjs_1, mjs_2, mjs_3, mjs_ble, true_and, Bool.false_eq_true, if_false, if_true, Nat.reduceAdd, Nat.reduceSub, Nat.reduceLeDiff, false_implies, true_implies, not_false_eq_true, not_true_eq_false, and_true, mc_sh, hr, mjs_up_at, mjs_up_c, mjs_up_f, i3, e0, nI_1]
  exact ⟨nI_in hfi (by decide), hQ _ (rc_30 (rc_31 h))⟩
/-- the argument that is being read: from bg on, len tokens f -/
def caP (n : Nat) (A : Nat → (Nat → Nat) × Nat) (bg : Nat) (f : Nat → Nat) (len : Nat) (fb : Nat → Nat → Int32) : Prop := caA n A (bg + len) fb ∧ (∀ k, k < n → ∀ z, fb 32 (k + 1) = nI z → z < 2 ^ 31 → z + (A k).2 ≤ bg) ∧ ∀ i, i < len → fb 31 (bg + i) = nI (f i)
theorem caP_add {n : Nat} {A : Nat → (Nat → Nat) × Nat} {bg len : Nat} {f : Nat → Nat} (hl : bg + len < 14101) (h : caP n A bg f len fb) : caP n A bg (ud f len t) (len + 1) (aB fb (bg + len) t) := by
  obtain ⟨⟨h1, h2⟩, h3, h4⟩ := h
  have k31 : ∀ q, aB fb (bg + len) t 31 q = if q = bg + len then nI t else fb 31 q := fun q => by
    unfold aB
    rw [mjs_up_c (by decide)]
    by_cases e : q = bg + len
    · rw [if_pos e, e, mjs_up_at]
    · rw [if_neg e, mjs_up_f e]
  refine ⟨⟨rfl, fun k hk => ?_⟩, h3, fun i hi => ?_⟩
  · obtain ⟨z, z1, z2, z3, z4⟩ := h2 k hk
    have zb := h3 k hk z z1 (by omega)
    refine ⟨z, z1, z2, by omega, fun i hi => ?_⟩
    rw [k31, if_neg (by omega)]
    exact z4 i hi
  · rw [k31]
    by_cases e : i = len
    · rw [if_pos (by omega), e, ud_at]
    · rw [if_neg (by omega), ud_ne e]
      exact h4 i (by omega)
def raP (n : Nat) (A : Nat → (Nat → Nat) × Nat) (f : Nat → Nat) (len : Nat) (H : Nat → Nat → Int32) : Prop := raA n A H ∧ ∀ i, i < len → H 54 (11000 * n + i) = nI (rt (f i))
theorem raP_add {n : Nat} {A : Nat → (Nat → Nat) × Nat} {len : Nat} {f : Nat → Nat} (hl : len < 11000) (h : raP n A f len H) : raP n A (ud f len t) (len + 1) (mj_up H 54 (11000 * n + len) (nI (rt t))) := by
  obtain ⟨h1, h2⟩ := h
  refine ⟨fun k hk => ?_, fun i hi => ?_⟩
  · obtain ⟨a1, a2, a3⟩ := h1 k hk
    refine ⟨a1, a2, fun i hi => ?_⟩
    rw [mjs_up_f (by omega)]
    exact a3 i hi
  · by_cases e : i = len
    · rw [e, mjs_up_at, ud_at]
    · rw [mjs_up_f (by omega), ud_ne e]
      exact h2 i (by omega)
theorem raA_end {n : Nat} {A : Nat → (Nat → Nat) × Nat} {len : Nat} {f : Nat → Nat} (hl : len ≤ 10000) (h : raP n A f len H) : raA (n + 1) (ud A n (f, len)) (mj_up H 55 n (nI len)) := by
  obtain ⟨h1, h2⟩ := h
  intro k hk
  by_cases e : k = n
  · subst e
    rw [ud_at]
    exact ⟨mjs_up_at, hl, h2⟩
  · rw [ud_ne e]
    obtain ⟨a1, a2, a3⟩ := h1 k (by omega)
    exact ⟨by rw [mjs_up_f e]; exact a1, a2, a3⟩
theorem caA_end {n : Nat} {A : Nat → (Nat → Nat) × Nat} {bg len a b : Nat} {f g : Nat → Nat} (hl : bg + len < 2 ^ 31) (h : caP n A bg f len fb) (hab : a + b ≤ len) (hg : ∀ i, i < b → g i = f (a + i)) : caA (n + 1) (ud A n (g, b)) (bg + len) (mj_up (mj_up fb 32 (n + 1) (nI (bg + a))) 33 (n + 1) (nI (bg + a + b))) := by
  obtain ⟨⟨h1, h2⟩, h3, h4⟩ := h
  refine ⟨h1, fun k hk => ?_⟩
  by_cases e : k = n
  · subst e
    rw [ud_at]
    refine ⟨bg + a, ?_, ?_, by simp only; omega, fun i hi => ?_⟩
    · rw [mjs_up_c (by decide), mjs_up_at]
    · rw [mjs_up_at]
    · simp only at hi
      show fb 31 (bg + a + i) = nI (g i)
      rw [hg i hi, Nat.add_assoc]
      exact h4 (a + i) (by omega)
  · rw [ud_ne e]
    obtain ⟨z, z1, z2, z3, z4⟩ := h2 k (by omega)
    refine ⟨z, ?_, ?_, z3, z4⟩
    · rw [mjs_up_c (by decide), mjs_up_f (by omega)]
      exact z1
    · rw [mjs_up_f (by omega)]
      exact z2
end MJAR
