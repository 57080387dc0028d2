/-! EXPANSION BY LEVELS: what an expansion leaves as it was; getting expanded out of expanding -/
def mu (K : Nat × Nat × Nat) (P : List Nat) (L : sgL) : Nat := (K.2.1 - K.1) * 20000 + P.length + tl L
/-- conditions that are not decided stay -/
def cx (C C' : sgC) : Prop := ∀ j, j < C.1 → C.2.1 j = 0 → j < C'.1 ∧ C'.2.1 j = 0 ∧ C'.2.2 j = C.2.2 j
theorem cx_rf {C : sgC} : cx C C := fun _ h1 h2 => ⟨h1, h2, rfl⟩
theorem cx_tr {C C' C'' : sgC} (h : cx C C') (h' : cx C' C'') : cx C C'' := fun j h1 h2 => by
  obtain ⟨a1, a2, a3⟩ := h j h1 h2
  obtain ⟨b1, b2, b3⟩ := h' j a1 a2
  exact ⟨b1, b2, b3.trans a3⟩
def sx (K : Nat × Nat × Nat) (S : sgS) (K' : Nat × Nat × Nat) (S' : sgS) : Prop := S'.2.2.1 = S.2.2.1 ∧ S'.2.2.2 + K.1 ≤ S.2.2.2 + K'.1 ∧ S'.2.1 = S.2.1 ∧ (∀ l c, l ≤ S.2.2.1 → c < 512 → S'.1 l c = S.1 l c) ∧ ∀ c, c < 1804 → S'.1 S.2.2.1 c = S.1 S.2.2.1 c ∨ (S.1 S.2.2.1 c = 0 ∧ S'.1 S.2.2.1 c = nI 65555)
def xs (K : Nat × Nat × Nat) (P : List Nat) (N : sgN) (S : sgS) (C : sgC) (L : sgL) (K' : Nat × Nat × Nat) (P' : List Nat) (N' : sgN) (S' : sgS) (C' : sgC) (L' : sgL) : Prop := nx N N' ∧ (K.1 ≤ K'.1 ∧ K'.2 = K.2) ∧ mu K' P' L' ≤ mu K P L ∧ tl L' ≤ tl L ∧ sx K S K' S' ∧ cx C C'
def gw (K : Nat × Nat × Nat) (S : sgS) : Prop := S.2.2.2 ≤ K.1 ∧ ∀ l c, l ≤ S.2.2.1 → c < 256 → S.1 l c ≠ -2147483648
theorem sx_rf {K : Nat × Nat × Nat} {S : sgS} : sx K S K S := ⟨rfl, Nat.le_refl _, rfl, fun _ _ _ _ => rfl, fun _ _ => Or.inl rfl⟩
theorem sx_tr {K K' K'' : Nat × Nat × Nat} {S S' S'' : sgS} (h : sx K S K' S') (h' : sx K' S' K'' S'') : sx K S K'' S'' := ⟨h'.1.trans h.1, by have := h.2.1; have := h'.2.1; omega, h'.2.2.1.trans h.2.2.1, fun l c hl hc => (h'.2.2.2.1 l c (by rw [h.1]; exact hl) hc).trans (h.2.2.2.1 l c hl hc), fun c hc => by
  have a := h.2.2.2.2 c hc
  have b := h'.2.2.2.2 c hc
  rw [h.1] at b
  rcases a with a | ⟨a1, a2⟩
  · rcases b with b | ⟨b1, b2⟩
    · exact Or.inl (b.trans a)
    · exact Or.inr ⟨a.symm.trans b1, b2⟩
  · rcases b with b | ⟨b1, b2⟩
    · exact Or.inr ⟨a1, b.trans a2⟩
    · exact absurd (a2.symm.trans b1) (by decide)⟩
section MJLV
variable {X : mj_X} {d nc ns : Nat} {Q : mj_Q} {I I' J J' H : Nat → Nat → Int32} {Lg : Nat → Nat → Int64} {Rf : Nat → Nat → Option Nat} {fb fb' : Nat → Nat → Int32} {vb : Nat → Int32} {K K' K'' : Nat × Nat × Nat} {P P' P'' : List Nat} {E : sgE} {N N' N'' : sgN} {S S' S'' : sgS} {M : sgM} {C C' C'' : sgC} {O : sgO} {L L' L'' : sgL} {t n kc kr : Nat}
theorem xs_rf : xs K P N S C L K P N S C L := ⟨nx_rf, ⟨Nat.le_refl _, rfl⟩, Nat.le_refl _, Nat.le_refl _, sx_rf, cx_rf⟩
theorem xs_tr (h : xs K P N S C L K' P' N' S' C' L') (h' : xs K' P' N' S' C' L' K'' P'' N'' S'' C'' L'') : xs K P N S C L K'' P'' N'' S'' C'' L'' := ⟨nx_tr h.1 h'.1, ⟨Nat.le_trans h.2.1.1 h'.2.1.1, h'.2.1.2.trans h.2.1.2⟩, Nat.le_trans h'.2.2.1 h.2.2.1, Nat.le_trans h'.2.2.2.1 h.2.2.2.1, sx_tr h.2.2.2.2.1 h'.2.2.2.2.1, cx_tr h.2.2.2.2.2 h'.2.2.2.2.2⟩
/-- a token got -/
theorem xs_get (h1 : nx N N') (h2 : P'.length + tl L' ≤ P.length + tl L) (h3 : tl L' ≤ tl L) : xs K P N S C L K P' N' S C L' := ⟨h1, ⟨Nat.le_refl _, rfl⟩, by unfold mu; omega, h3, sx_rf, cx_rf⟩
theorem gw_xs (h : gw K S) (hx : xs K P N S C L K' P' N' S' C' L') : gw K' S' := by
  obtain ⟨_, ⟨k1, _⟩, _, _, ⟨s1, s2, s3, s4, _⟩, _⟩ := hx
  refine ⟨by have := h.1; omega, fun l c hl hc => ?_⟩
  rw [s4 l c (by omega) (by omega)]
  exact h.2 l c (by omega) hc
set_option maxRecDepth 100000 in
theorem mu_tick (hK : K.1 ≤ K.2.1) (h1 : K.1 < K'.1) (h2 : K'.2 = K.2) (hK' : K'.1 ≤ K'.2.1) (hp : P'.length ≤ 10002) (hl : tl L' ≤ 4001) : mu K' P' L' + 1 ≤ mu K P L := by
  unfold mu
  rw [h2] at hK' ⊢
  have : (K.2.1 - K'.1) * 20000 + 20000 ≤ (K.2.1 - K.1) * 20000 := by
    rw [← Nat.succ_mul]
    exact Nat.mul_le_mul_right _ (by omega)
  omega
theorem rx_at {k D M : Nat} {as : List Value} {g g' : sg} {A B : (Nat → Nat → Int32) → Prop} {o : Option Value} (h : RX X Rf k M as g A o g' B) (hD : k ≤ D) (hJ : RR H g J) (hA : A H) (hq : ∀ H' J', hx H H' → RR H' g' J' → B H' → Q (.inl o) (sh59, J', Lg, Rf, nc, ns)) : mj_call X mj_P (mj_bi X) D M as (sh59, J, Lg, Rf, nc, ns) Q := by
  have := h H Lg (D - k) nc ns J Q hJ hA hq
  rwa [Nat.sub_add_cancel hD] at this
theorem ry_at {k D M : Nat} {as : List Value} {g g' : sg} {A : (Nat → Nat → Int32) → Prop} {o : Option Value} (h : RY X Rf k M as g A o g') (hD : k ≤ D) (hJ : RR H g J) (hA : A H) (hq : ∀ J', RD H g' J' → Q (.inl o) (sh59, J', Lg, Rf, nc, ns)) : mj_call X mj_P (mj_bi X) D M as (sh59, J, Lg, Rf, nc, ns) Q := by
  have := h H Lg (D - k) nc ns J Q hJ hA hq
  rwa [Nat.sub_add_cancel hD] at this
/-- expand, with n levels left -/
def XP (X : mj_X) (Rf : Nat → Nat → Option Nat) (vb : Nat → Int32) (kc kr n : Nat) : Prop := ∀ (fb : Nat → Nat → Int32) (K : Nat × Nat × Nat) (P : List Nat) (E : sgE) (N : sgN) (S : sgS) (M : sgM) (C : sgC) (O : sgO) (L : sgL) (t nc ns : Nat) (Lg : Nat → Nat → Int64) (I : Nat → Nat → Int32) (Q : mj_Q) (D : Nat), kc ≤ D → K.2.2 + n = 40 → nc + 1 ≤ X.2.2.1 ∧ ns + 6 ≤ X.2.2.2 → gv (K, P, E, N, S, M, C, O, L) → gw K S → P.length ≤ 9999 → tv N.2.2 t → gx S t → RC fb vb (K, P, E, N, S, M, C, O, L) I →
  (∀ fb' K' P' N' S' C' L' I', gv (K', P', E, N', S', M, C', O, L') → RC fb' vb (K', P', E, N', S', M, C', O, L') I' → K.1 < K'.1 → P'.length ≤ 10000 → xs K P N S C L K' P' N' S' C' L' → RX X Rf kr 133 [.ref 36, .int (nI (rt t))] (K, P, E, N, S, M, C, O, L) na none (K', P', E, N', S', M, C', O, L') na → Q (.inl none) (sh59, I', Lg, Rf, nc, ns)) →
  (∀ g' I', RCf fb vb g' I' → RY X Rf kr 133 [.ref 36, .int (nI (rt t))] (K, P, E, N, S, M, C, O, L) na none g' → Q (.inr 500) (sh59, I', Lg, Rf, nc + 1, ns + 6)) →
  mj_call X mj_P (mj_bi X) D 25 [.ref 28, .int (nI t)] (sh59, I, Lg, Rf, nc, ns) Q
/-- the text is at its end, and the reference's getExpanded says so -/
def XE (X : mj_X) (Rf : Nat → Nat → Option Nat) (kr : Nat) (E : sgE) (M : sgM) (O : sgO) (g g' : sg) : Prop := ∃ K' N' S' C' L', g' = (K', [], E, N', S', M, C', O, L') ∧ tl L' = 0 ∧ gv g' ∧ K'.2 = g.1.2 ∧ RX X Rf kr 129 [.ref 36] g na (some (.int (-1))) g' na
/-- expanded -/
def XD (X : mj_X) (Rf : Nat → Nat → Option Nat) (vb : Nat → Int32) (kc kr n : Nat) : Prop := ∀ (fb : Nat → Nat → Int32) (K : Nat × Nat × Nat) (P : List Nat) (E : sgE) (N : sgN) (S : sgS) (M : sgM) (C : sgC) (O : sgO) (L : sgL) (b nc ns : Nat) (Lg : Nat → Nat → Int64) (I : Nat → Nat → Int32) (Q : mj_Q) (D : Nat), kc ≤ D → K.2.2 + n = 40 → nc + 1 ≤ X.2.2.1 ∧ ns + 6 ≤ X.2.2.2 → gv (K, P, E, N, S, M, C, O, L) → gw K S → P.length ≤ 10000 → (b = 0 ∨ b = 1) → RC fb vb (K, P, E, N, S, M, C, O, L) I →
  (∀ fb' K' P' N' S' C' L' I' t, gv (K', P', E, N', S', M, C', O, L') → RC fb' vb (K', P', E, N', S', M, C', O, L') I' → P'.length ≤ 9999 → xs K P N S C L K' P' N' S' C' L' → mu K' P' L' < mu K P L → tv N'.2.2 t → ¬ gx S' t → RX X Rf kr 129 [.ref 36] (K, P, E, N, S, M, C, O, L) na (some (.int (nI (rt t)))) (K', P', E, N', S', M, C', O, L') na → Q (.inl (some (.int (nI t)))) (sh59, I', Lg, Rf, nc, ns)) →
  (b = 1 → ∀ fb' K' N' S' C' L' I', gv (K', [], E, N', S', M, C', O, L') → RC fb' vb (K', [], E, N', S', M, C', O, L') I' → xs K P N S C L K' [] N' S' C' L' → tl L' = 0 → RX X Rf kr 129 [.ref 36] (K, P, E, N, S, M, C, O, L) na (some (.int (-1))) (K', [], E, N', S', M, C', O, L') na → Q (.inl (some (.int (-1)))) (sh59, I', Lg, Rf, nc, ns)) →
  (∀ g' I', RCf fb vb g' I' → (RY X Rf kr 129 [.ref 36] (K, P, E, N, S, M, C, O, L) na (some (.int (-1))) g' ∨ (b = 0 ∧ XE X Rf kr E M O (K, P, E, N, S, M, C, O, L) g')) → RY X Rf (kr + 1) 130 [.ref 36] (K, P, E, N, S, M, C, O, L) na (some (.int (-1))) g' → Q (.inr 500) (sh59, I', Lg, Rf, nc + 1, ns + 6)) →
  mj_call X mj_P (mj_bi X) D 22 [.ref 28, .int (nI b)] (sh59, I, Lg, Rf, nc, ns) Q
/-- number -/
def NU (X : mj_X) (Rf : Nat → Nat → Option Nat) (vb : Nat → Int32) (kc kr n : Nat) : Prop := ∀ (fb : Nat → Nat → Int32) (K : Nat × Nat × Nat) (P : List Nat) (E : sgE) (N : sgN) (S : sgS) (M : sgM) (C : sgC) (O : sgO) (L : sgL) (nc ns : Nat) (Lg : Nat → Nat → Int64) (I : Nat → Nat → Int32) (Q : mj_Q) (D : Nat), kc ≤ D → K.2.2 + n = 40 → nc + 1 ≤ X.2.2.1 ∧ ns + 6 ≤ X.2.2.2 → gv (K, P, E, N, S, M, C, O, L) → gw K S → P.length ≤ 10000 → RC fb vb (K, P, E, N, S, M, C, O, L) I →
  (∀ fb' K' P' N' S' C' L' I' x, gv (K', P', E, N', S', M, C', O, L') → RC fb' vb (K', P', E, N', S', M, C', O, L') I' → P'.length ≤ 10000 → xs K P N S C L K' P' N' S' C' L' → x ≠ -2147483648 → RX X Rf kr 161 [.ref 36] (K, P, E, N, S, M, C, O, L) na (some (.int x)) (K', P', E, N', S', M, C', O, L') na → Q (.inl (some (.int x))) (sh59, I', Lg, Rf, nc, ns)) →
  (∀ g' I', RCf fb vb g' I' → RY X Rf kr 161 [.ref 36] (K, P, E, N, S, M, C, O, L) na (some (.int 0)) g' → Q (.inr 500) (sh59, I', Lg, Rf, nc + 1, ns + 6)) →
  mj_call X mj_P (mj_bi X) D 38 [.ref 28] (sh59, I, Lg, Rf, nc, ns) Q
theorem rx_130 {g g' : sg} {A B : (Nat → Nat → Int32) → Prop} {k : Nat} (ht : t < 2 ^ 31) (h : RX X Rf k 129 [.ref 36] g A (some (.int (nI t))) g' B) : RX X Rf (k + 1) 130 [.ref 36] g A (some (.int (nI t))) g' B := by
  have hne : ¬ nI t = -1 := fun e => absurd (nI_pos ht) (by rw [e]; decide)
  intro H Lg d nc ns J Q hJ hA hq
  rw [show d + (k + 1) = (d + k) + 1 by omega]
  refine mj_enter (z := (2, [], mb_130)) (by decide) rfl rfl ?_
  refine mj_blk rfl ?_
  simp +decide only [mjs_0, mjs_1, mjs_2, mjs_3, mjs_ble, true_and, Bool.false_eq_true, if_false, if_true, Nat.reduceAdd, Nat.reduceSub, Nat.reduceLeDiff, false_implies, true_implies, not_false_eq_true, not_true_eq_false, and_true, mm_sh]
  refine rx_at h (by omega) hJ hA (fun H' J' c1 c2 c3 => ?_)
  simp +decide only [mjs_0, mjs_1, mjs_2, mjs_3, mjs_ble, true_and, Bool.false_eq_true, if_false, if_true, Nat.reduceAdd, Nat.reduceSub, Nat.reduceLeDiff, false_implies, true_implies, not_false_eq_true, not_true_eq_false, and_true]
  refine ⟨fun _ => mj_blk rfl ?_, fun q => absurd hne q⟩
  simp +decide only [mjs_0, mjs_1, mjs_2, mjs_3, mjs_ble, true_and, Bool.false_eq_true, if_false, if_true, Nat.reduceAdd, Nat.reduceSub, Nat.reduceLeDiff, false_implies, true_implies, not_false_eq_true, not_true_eq_false, and_true]
  exact hq H' J' c1 c2 c3
theorem ry_130 {g g' : sg} {A : (Nat → Nat → Int32) → Prop} {k : Nat} (hk : 1 ≤ k) (h : RY X Rf k 129 [.ref 36] g A (some (.int (-1))) g') : RY X Rf (k + 1) 130 [.ref 36] g A (some (.int (-1))) g' := by
  intro H Lg d nc ns J Q hJ hA hq
  obtain ⟨D, hD, hDk⟩ : ∃ D, d + (k + 1) = D + 2 ∧ k ≤ D + 1 := ⟨d + k - 1, by omega, by omega⟩
  rw [hD]
  refine mj_enter (z := (2, [], mb_130)) (by decide) rfl rfl ?_
  refine mj_blk rfl ?_
  simp +decide only [mjs_0, mjs_1, mjs_2, mjs_3, mjs_ble, true_and, Bool.false_eq_true, if_false, if_true, Nat.reduceAdd, Nat.reduceSub, Nat.reduceLeDiff, false_implies, true_implies, not_false_eq_true, not_true_eq_false, and_true, mm_sh]
  refine ry_at h (by omega) hJ hA (fun J' hJ' => ?_)
  simp +decide only [mjs_0, mjs_1, mjs_2, mjs_3, mjs_ble, true_and, Bool.false_eq_true, if_false, if_true, Nat.reduceAdd, Nat.reduceSub, Nat.reduceLeDiff, false_implies, true_implies, not_false_eq_true, not_true_eq_false, and_true]
  refine mj_blk rfl ?_
  simp +decide only [mjs_0, mjs_1, mjs_2, mjs_3, mjs_ble, true_and, Bool.false_eq_true, if_false, if_true, Nat.reduceAdd, Nat.reduceSub, Nat.reduceLeDiff, false_implies, true_implies, not_false_eq_true, not_true_eq_false, and_true, mm_sh]
  refine f_106 s59_36 (rd_ne hJ') ?_
  simp +decide only [mjs_0, mjs_1, mjs_2, mjs_3, mjs_ble, true_and, Bool.false_eq_true, if_false, if_true, Nat.reduceAdd, Nat.reduceSub, Nat.reduceLeDiff, false_implies, true_implies, not_false_eq_true, not_true_eq_false, and_true]
  refine mj_blk rfl ?_
  simp +decide only [mjs_0, mjs_1, mjs_2, mjs_3, mjs_ble, true_and, Bool.false_eq_true, if_false, if_true, Nat.reduceAdd, Nat.reduceSub, Nat.reduceLeDiff, false_implies, true_implies, not_false_eq_true, not_true_eq_false, and_true]
  exact hq _ hJ'
theorem ry_130e {g g' : sg} {A B : (Nat → Nat → Int32) → Prop} {k : Nat} (hk : 1 ≤ k) (h : RX X Rf k 129 [.ref 36] g A (some (.int (-1))) g' B) : RY X Rf (k + 1) 130 [.ref 36] g A (some (.int (-1))) g' := by
  intro H Lg d nc ns J Q hJ hA hq
  obtain ⟨D, hD, hDk⟩ : ∃ D, d + (k + 1) = D + 2 ∧ k ≤ D + 1 := ⟨d + k - 1, by omega, by omega⟩
  rw [hD]
  refine mj_enter (z := (2, [], mb_130)) (by decide) rfl rfl ?_
  refine mj_blk rfl ?_
  simp +decide only [mjs_0, mjs_1, mjs_2, mjs_3, mjs_ble, true_and, Bool.false_eq_true, if_false, if_true, Nat.reduceAdd, Nat.reduceSub, Nat.reduceLeDiff, false_implies, true_implies, not_false_eq_true, not_true_eq_false, and_true, mm_sh]
  refine rx_at h (by omega) hJ hA (fun H' J' c1 hJ' c3 => ?_)
  simp +decide only [mjs_0, mjs_1, mjs_2, mjs_3, mjs_ble, true_and, Bool.false_eq_true, if_false, if_true, Nat.reduceAdd, Nat.reduceSub, Nat.reduceLeDiff, false_implies, true_implies, not_false_eq_true, not_true_eq_false, and_true]
  refine mj_blk rfl ?_
  simp +decide only [mjs_0, mjs_1, mjs_2, mjs_3, mjs_ble, true_and, Bool.false_eq_true, if_false, if_true, Nat.reduceAdd, Nat.reduceSub, Nat.reduceLeDiff, false_implies, true_implies, not_false_eq_true, not_true_eq_false, and_true, mm_sh]
  refine c_106 s59_36 ?_
  rw [if_pos hJ'.1.2.2.2]
  simp +decide only [mjs_0, mjs_1, mjs_2, mjs_3, mjs_ble, true_and, Bool.false_eq_true, if_false, if_true, Nat.reduceAdd, Nat.reduceSub, Nat.reduceLeDiff, false_implies, true_implies, not_false_eq_true, not_true_eq_false, and_true]
  refine mj_blk rfl ?_
  simp +decide only [mjs_0, mjs_1, mjs_2, mjs_3, mjs_ble, true_and, Bool.false_eq_true, if_false, if_true, Nat.reduceAdd, Nat.reduceSub, Nat.reduceLeDiff, false_implies, true_implies, not_false_eq_true, not_true_eq_false, and_true]
  exact hq _ (rd_hx (rr_f (f := 9) (by decide) (by decide) hJ') c1)
/-- getting a token: what the reference does at the end of the text is kept apart -/
theorem p_85e (hR : mj_Rt mp_R Rf) (hM' : mj_Rt mm_R Rf) (hv : gv (K, P, E, N, S, M, C, O, L)) (h : RC fb vb (K, P, E, N, S, M, C, O, L) I) (hp : P.length ≤ 10000) (hr' : nc + 1 ≤ X.2.2.1 ∧ ns + 6 ≤ X.2.2.2) {b : Nat} (hb : b = 0 ∨ b = 1)
    (hQ1 : ∀ t P' N' L' I', gv (K, P', E, N', S, M, C, O, L') → RC fb vb (K, P', E, N', S, M, C, O, L') I' → nx N N' → P'.length + tl L' < P.length + tl L → P'.length ≤ 9999 ∧ P'.length ≤ P.length → tl L' ≤ tl L → tv N'.2.2 t → RS X Rf 5 116 [.ref 36] (K, P, E, N, S, M, C, O, L) (some (.int (nI (rt t)))) (K, P', E, N', S, M, C, O, L') → Q (.inl (some (.int (nI t)))) (sh59, I', Lg, Rf, nc, ns))
    (hQ2 : b = 1 → P = [] → ∀ L' I', gv (K, [], E, N, S, M, C, O, L') → RC fb vb (K, [], E, N, S, M, C, O, L') I' → tl L' = 0 → RS X Rf 5 116 [.ref 36] (K, P, E, N, S, M, C, O, L) (some (.int (-1))) (K, [], E, N, S, M, C, O, L') → Q (.inl (some (.int (-1)))) (sh59, I', Lg, Rf, nc, ns))
    (hQ3 : ∀ g' I', RCf fb vb g' I' → (RF X Rf 5 116 [.ref 36] (K, P, E, N, S, M, C, O, L) (some (.int (-1))) g' ∨ (b = 0 ∧ ∃ L', g' = (K, [], E, N, S, M, C, O, L') ∧ tl L' = 0 ∧ gv g' ∧ RS X Rf 5 116 [.ref 36] (K, P, E, N, S, M, C, O, L) (some (.int (-1))) g')) → Q (.inr 500) (sh59, I', Lg, Rf, nc + 1, ns + 6)) :
    mj_call X mj_P (mj_bi X) (d + 2) 85 [.ref 17, .int (nI b)] (sh59, I, Lg, Rf, nc, ns) Q := by
  have hr := mc_rf hR
  have hm := mm_rf hM'
  cases P with
  | cons t P' =>
    obtain ⟨hK, hP, hE, hN, hS, hM, hC, hO, hL, hZ⟩ := rc_d (h)
    have hlen : P'.length + 1 ≤ 10000 := hp
    refine c_85p (d := d + 1) hR (k := P'.length) (by omega) hP.1 ?_
    rw [hP.2.2.1]
    have k1 := (gv_d hv).2.2.1.1
    have k2 := (gv_d hv).2.2.1.2.1
    have tvt := (gv_d hv).1 t List.mem_cons_self
    refine hQ1 t P' N L _ ⟨fun x hx => (gv_d hv).1 x (List.mem_cons_of_mem _ hx), (gv_d hv).2⟩ ⟨hK, ⟨rfl, show P'.length < 10100 by omega, hP.2.2.2⟩, hE, hN, hS, hM, hC, hO, hL, hZ⟩ nx_rf (by simp only [List.length_cons]; omega) ⟨by omega, by simp⟩ (Nat.le_refl _) tvt ?_
    intro H Lg d nc ns J Q hJ hq
    obtain ⟨jK, jP, jE, jN, jS, jM, jC, jO, jL, jZ⟩ := rr_d hJ
    refine r_116p (d := d + 4) (mm_W hM') (p := P'.length) (by omega) jK.2.2.2 jP.1 ?_
    have e : J (36 + 17) P'.length = nI (rt t) := by
      have := jP.2.1
      rw [List.length_map] at this
      exact this
    rw [e]
    exact hq _ ⟨jK, ⟨rfl, jP.2.2⟩, jE, jN, jS, jM, jC, jO, jL, fun c hc => by rw [mj_up_off (by omega)]; exact jZ c hc⟩
  | nil =>
    have tle := tl_le (gv_d hv).2.2.2.2.2.2.2
    have hP := h.2.1
    have h8 : I 17 8 = 0 := hP.1
    have r116 : ∀ (H : Nat → Nat → Int32) (Lg : Nat → Nat → Int64) (d nc ns : Nat) (J : Nat → Nat → Int32) (Q : mj_Q), RR H (K, [], E, N, S, M, C, O, L) J → (∀ K' : mj_Q, (∀ (x : Int32) (J' : Nat → Nat → Int32), Q (.inl (some (.int x))) (sh59, J', Lg, Rf, nc, ns) → K' (.inl (some (.int x))) (sh59, J', Lg, Rf, nc, ns)) → mj_rn X (mj_hd []) (mj_call X mj_P (mj_bi X) (d + 3)) mb_115 0 [some (.ref 36), none, none] [] (sh59, J, Lg, Rf, nc, ns) K') → mj_call X mj_P (mj_bi X) (d + 5) 116 [.ref 36] (sh59, J, Lg, Rf, nc, ns) Q := by
      intro H Lg d nc ns J Q hJ hq
      have j29 : J 36 29 = 0 := hJ.2.1.1
      refine mj_enter (z := (1, [], mb_116)) (by decide) rfl rfl ?_
      refine mj_blk rfl ?_
      simp +decide only [mjs_0, mjs_1, mjs_2, mjs_3, mjs_ble, true_and, Bool.false_eq_true, if_false, if_true, Nat.reduceAdd, Nat.reduceSub, Nat.reduceLeDiff, false_implies, true_implies, not_false_eq_true, not_true_eq_false, and_true, mm_sh, hm, mjs_up_at, mjs_up_c, mjs_up_f, hJ.1.2.2.2]
      refine mj_blk rfl ?_
      simp +decide only [mjs_0, mjs_1, mjs_2, mjs_3, mjs_ble, true_and, Bool.false_eq_true, if_false, if_true, Nat.reduceAdd, Nat.reduceSub, Nat.reduceLeDiff, false_implies, true_implies, not_false_eq_true, not_true_eq_false, and_true, mm_sh, hm, mjs_up_at, mjs_up_c, mjs_up_f, j29]
      refine mj_blk rfl ?_
      simp +decide only [mjs_0, mjs_1, mjs_2, mjs_3, mjs_ble, true_and, Bool.false_eq_true, if_false, if_true, Nat.reduceAdd, Nat.reduceSub, Nat.reduceLeDiff, false_implies, true_implies, not_false_eq_true, not_true_eq_false, and_true, mm_sh, hm, mjs_up_at, mjs_up_c, mjs_up_f]
      refine mj_enter (z := (3, [], mb_115)) (by decide) rfl rfl ?_
      refine hq _ (fun x J' hx => ?_)
      simp +decide only [mjs_0, mjs_1, mjs_2, mjs_3, mjs_ble, true_and, Bool.false_eq_true, if_false, if_true, Nat.reduceAdd, Nat.reduceSub, Nat.reduceLeDiff, false_implies, true_implies, not_false_eq_true, not_true_eq_false, and_true, mm_sh, hm, mjs_up_at, mjs_up_c, mjs_up_f]
      exact hx
    refine mj_enter (z := (7, [], mb_85)) (by decide) rfl rfl ?_
    refine mj_blk rfl ?_
    simp +decide only [mjs_0, mjs_1, mjs_2, mjs_3, mjs_ble, true_and, Bool.false_eq_true, if_false, if_true, Nat.reduceAdd, Nat.reduceSub, Nat.reduceLeDiff, false_implies, true_implies, not_false_eq_true, not_true_eq_false, and_true, mc_sh, hr, mjs_up_at, mjs_up_c, mjs_up_f, h8]
    refine mj_blk rfl ?_
    simp +decide only [mjs_0, mjs_1, mjs_2, mjs_3, mjs_ble, true_and, Bool.false_eq_true, if_false, if_true, Nat.reduceAdd, Nat.reduceSub, Nat.reduceLeDiff, false_implies, true_implies, not_false_eq_true, not_true_eq_false, and_true, mc_sh, hr, mjs_up_at, mjs_up_c, mjs_up_f]
    refine p_29 hR hM' hr' 4001 L 0 I (by omega) (by omega) hv h ⟨fun t N' L' I' a1 a2 a3 a4 a5 a6 => ?_, fun L' I' a1 a2 a3 a4 w => ?_, fun g' I' a1 a2 => ?_⟩
    · refine hQ1 t [] N' L' I' a1 a2 a3 (by simpa using a4) (by simp) (by omega) a5 ?_
      intro H Lg d nc ns J Q hJ hq
      exact r116 H Lg d nc ns J Q hJ (fun K' hK' => a6 H Lg d nc ns J K' hJ (fun J' hJ' => hK' _ _ (hq J' hJ')))
    · have rs : RS X Rf 5 116 [.ref 36] (K, [], E, N, S, M, C, O, L) (some (.int (-1))) (K, [], E, N, S, M, C, O, L') := by
        intro H Lg d nc ns J Q hJ hq
        exact r116 H Lg d nc ns J Q hJ (fun K' hK' => a4 H Lg d nc ns J K' hJ (fun J' hJ' => hK' _ _ (hq J' hJ')))
      rcases hb with rfl | rfl
      · refine mj_blk rfl ?_
        simp +decide only [mjs_0, mjs_1, mjs_2, mjs_3, mjs_ble, true_and, Bool.false_eq_true, if_false, if_true, Nat.reduceAdd, Nat.reduceSub, Nat.reduceLeDiff, false_implies, true_implies, not_false_eq_true, not_true_eq_false, and_true, mc_sh, hr, mjs_up_at, mjs_up_c, mjs_up_f]
        refine mj_blk rfl ?_
        simp +decide only [mjs_0, mjs_1, mjs_2, mjs_3, mjs_ble, true_and, Bool.false_eq_true, if_false, if_true, Nat.reduceAdd, Nat.reduceSub, Nat.reduceLeDiff, false_implies, true_implies, not_false_eq_true, not_true_eq_false, and_true, mc_sh, hr, mjs_up_at, mjs_up_c, mjs_up_f]
        refine c_80 s59_1 hr' ?_
        simp +decide only [mjs_0, mjs_1, mjs_2, mjs_3, mjs_ble, true_and, Bool.false_eq_true, if_false, if_true, Nat.reduceAdd, Nat.reduceSub, Nat.reduceLeDiff, false_implies, true_implies, not_false_eq_true, not_true_eq_false, and_true]
        exact hQ3 _ _ (rc_f a1 a2) (Or.inr ⟨rfl, L', rfl, a3, a1, rs⟩)
      · refine mj_blk rfl ?_
        simp +decide only [mjs_0, mjs_1, mjs_2, mjs_3, mjs_ble, true_and, Bool.false_eq_true, if_false, if_true, Nat.reduceAdd, Nat.reduceSub, Nat.reduceLeDiff, false_implies, true_implies, not_false_eq_true, not_true_eq_false, and_true, mc_sh, hr, mjs_up_at, mjs_up_c, mjs_up_f]
        refine mj_blk rfl ?_
        simp +decide only [mjs_0, mjs_1, mjs_2, mjs_3, mjs_ble, true_and, Bool.false_eq_true, if_false, if_true, Nat.reduceAdd, Nat.reduceSub, Nat.reduceLeDiff, false_implies, true_implies, not_false_eq_true, not_true_eq_false, and_true, mc_sh, hr, mjs_up_at, mjs_up_c, mjs_up_f]
        refine mj_blk rfl ?_
        simp +decide only [mjs_0, mjs_1, mjs_2, mjs_3, mjs_ble, true_and, Bool.false_eq_true, if_false, if_true, Nat.reduceAdd, Nat.reduceSub, Nat.reduceLeDiff, false_implies, true_implies, not_false_eq_true, not_true_eq_false, and_true, mc_sh, hr, mjs_up_at, mjs_up_c, mjs_up_f]
        exact hQ2 rfl rfl L' I' a1 a2 a3 rs
    · have rf : RF X Rf 5 116 [.ref 36] (K, [], E, N, S, M, C, O, L) (some (.int (-1))) g' := by
        intro H Lg d nc ns J Q hJ hq
        exact r116 H Lg d nc ns J Q hJ (fun K' hK' => a2 H Lg d nc ns J K' hJ (fun J' hJ' => hK' _ _ (hq J' hJ')))
      exact hQ3 g' I' a1 (Or.inl rf)
/-- getExpanded at its test, the text at its end -/
theorem r_129e {g : sg} (hM' : mj_Rt mm_R Rf) (hJ : RR H g J) {D : Nat} (hq : Q (.inl (some (.int (-1)))) (sh59, J, Lg, Rf, nc, ns)) : mj_rn X (mj_hd []) (mj_call X mj_P (mj_bi X) (D + 5)) mb_129 5 [some (.ref 36), some (.int (-1))] [] (sh59, J, Lg, Rf, nc, ns) Q := by
  have hm := mm_rf hM'
  refine mj_blk rfl ?_
  simp +decide only [mjs_0, mjs_1, mjs_2, mjs_3, mjs_ble, true_and, Bool.false_eq_true, if_false, if_true, Nat.reduceAdd, Nat.reduceSub, Nat.reduceLeDiff, false_implies, true_implies, not_false_eq_true, not_true_eq_false, and_true, mm_sh, hm, mjs_up_at, mjs_up_c, mjs_up_f]
  refine r_127e ?_
  simp +decide only [mjs_0, mjs_1, mjs_2, mjs_3, mjs_ble, true_and, Bool.false_eq_true, if_false, if_true, Nat.reduceAdd, Nat.reduceSub, Nat.reduceLeDiff, false_implies, true_implies, not_false_eq_true, not_true_eq_false, and_true, mm_sh, hm, mjs_up_at, mjs_up_c, mjs_up_f]
  refine mj_blk rfl ?_
  simp +decide only [mjs_0, mjs_1, mjs_2, mjs_3, mjs_ble, true_and, Bool.false_eq_true, if_false, if_true, Nat.reduceAdd, Nat.reduceSub, Nat.reduceLeDiff, false_implies, true_implies, not_false_eq_true, not_true_eq_false, and_true, mm_sh, hm, mjs_up_at, mjs_up_c, mjs_up_f]
  exact hq
theorem f_129e (hM' : mj_Rt mm_R Rf) {D : Nat} (hq : Q (.inl (some (.int (-1)))) (sh59, J, Lg, Rf, nc, ns)) : mj_rn X (mj_hd []) (mj_call X mj_P (mj_bi X) (D + 5)) mb_129 5 [some (.ref 36), some (.int (-1))] [] (sh59, J, Lg, Rf, nc, ns) Q := by
  have hm := mm_rf hM'
  refine mj_blk rfl ?_
  simp +decide only [mjs_0, mjs_1, mjs_2, mjs_3, mjs_ble, true_and, Bool.false_eq_true, if_false, if_true, Nat.reduceAdd, Nat.reduceSub, Nat.reduceLeDiff, false_implies, true_implies, not_false_eq_true, not_true_eq_false, and_true, mm_sh, hm, mjs_up_at, mjs_up_c, mjs_up_f]
  refine r_127e ?_
  simp +decide only [mjs_0, mjs_1, mjs_2, mjs_3, mjs_ble, true_and, Bool.false_eq_true, if_false, if_true, Nat.reduceAdd, Nat.reduceSub, Nat.reduceLeDiff, false_implies, true_implies, not_false_eq_true, not_true_eq_false, and_true, mm_sh, hm, mjs_up_at, mjs_up_c, mjs_up_f]
  refine mj_blk rfl ?_
  simp +decide only [mjs_0, mjs_1, mjs_2, mjs_3, mjs_ble, true_and, Bool.false_eq_true, if_false, if_true, Nat.reduceAdd, Nat.reduceSub, Nat.reduceLeDiff, false_implies, true_implies, not_false_eq_true, not_true_eq_false, and_true, mm_sh, hm, mjs_up_at, mjs_up_c, mjs_up_f]
  exact hq
theorem xd_of (hR : mj_Rt mp_R Rf) (hM' : mj_Rt mm_R Rf) (h3 : 3 ≤ kc) (h5 : 5 ≤ kr) (hX : XP X Rf vb kc kr n) : XD X Rf vb (kc + 1) (kr + 1) n := by
  have hr := mc_rf hR
  have hm := mm_rf hM'
  intro fb K P E N S M C O L b nc ns Lg I Q D hD hn hr' hv hw hp hb h hQ1 hQ2 hQ3
  obtain ⟨d, rfl⟩ : ∃ d, D = d + 4 := ⟨D - 4, by omega⟩
  have k5 := (rc_d h).1.2.2.2
  have loop : ∀ (m i t : Nat) (fb' : Nat → Nat → Int32) (K' : Nat × Nat × Nat) (P' : List Nat) (N' : sgN) (S' : sgS) (C' : sgC) (L' : sgL) (I' : Nat → Nat → Int32), K'.2.1 - K'.1 ≤ m → i + m ≤ K.2.1 → gv (K', P', E, N', S', M, C', O, L') → RC fb' vb (K', P', E, N', S', M, C', O, L') I' → P'.length ≤ 9999 → xs K P N S C L K' P' N' S' C' L' → mu K' P' L' < mu K P L → tv N'.2.2 t → RM X Rf mb_129 kr 0 [some (.ref 36), none] [] (K, P, E, N, S, M, C, O, L) na 5 [some (.ref 36), some (.int (nI (rt t)))] [] (K', P', E, N', S', M, C', O, L') na → mj_rn X (mj_hd []) (mj_call X mj_P (mj_bi X) (d + 3)) mb_22 11 [some (.ref 28), some (.int (nI b)), some (.int (nI t)), some (.int (nI i))] [] (sh59, I', Lg, Rf, nc, ns) Q := by
    intro m
    induction m using Nat.strongRecOn with
    | ind m ih =>
      intro i t fb' K' P' N' S' C' L' I' h1 h2 hv' h' hp' hx hmu ht hM
      have k5' := (rc_d h').1.2.2.2
      have hgw := gw_xs hw hx
      have hK2 := hx.2.1.2
      refine mj_blk rfl ?_
      simp +decide only [mjs_0, mjs_1, mjs_2, mjs_3, mjs_ble, true_and, Bool.false_eq_true, if_false, if_true, Nat.reduceAdd, Nat.reduceSub, Nat.reduceLeDiff, false_implies, true_implies, not_false_eq_true, not_true_eq_false, and_true]
      refine ⟨fun q => absurd q (nI_nlt (a := 30000) (b := i) (by omega) (by decide)), fun _ => mj_blk rfl ?_⟩
      simp +decide only [mjs_0, mjs_1, mjs_2, mjs_3, mjs_ble, true_and, Bool.false_eq_true, if_false, if_true, Nat.reduceAdd, Nat.reduceSub, Nat.reduceLeDiff, false_implies, true_implies, not_false_eq_true, not_true_eq_false, and_true, mc_sh]
      refine cq_24 hR h' hv' ht (fun e => ?_) (fun e => ?_)
      · simp +decide only [mjs_0, mjs_1, mjs_2, mjs_3, mjs_ble, true_and, Bool.false_eq_true, if_false, if_true, Nat.reduceAdd, Nat.reduceSub, Nat.reduceLeDiff, false_implies, true_implies, not_false_eq_true, not_true_eq_false, and_true]
        refine mj_blk rfl ?_
        simp +decide only [mjs_0, mjs_1, mjs_2, mjs_3, mjs_ble, true_and, Bool.false_eq_true, if_false, if_true, Nat.reduceAdd, Nat.reduceSub, Nat.reduceLeDiff, false_implies, true_implies, not_false_eq_true, not_true_eq_false, and_true, mc_sh]
        refine hX fb' K' P' E N' S' M C' O L' t nc ns Lg I' _ (d + 3) (by omega) (by rw [hK2]; exact hn) hr' hv' hgw (by omega) ht e h' (fun fb2 K2 P2 N2 S2 C2 L2 I2 a1 a2 a3 a4 a5 a6 => ?_) (fun g2 I2 a1 a2 => ?_)
        · have tl2 := tl_le (gv_d a1).2.2.2.2.2.2.2
          have k52 := (rc_d a2).1.2.2.2
          have hK22 := a5.2.1.2
          have hmu2 := mu_tick (P := P') (L := L') (P' := P2) (L' := L2) k5'.1 a3 hK22 k52.1 (by omega) tl2
          simp +decide only [mjs_0, mjs_1, mjs_2, mjs_3, mjs_ble, true_and, Bool.false_eq_true, if_false, if_true, Nat.reduceAdd, Nat.reduceSub, Nat.reduceLeDiff, false_implies, true_implies, not_false_eq_true, not_true_eq_false, and_true, mc_sh, hr, mjs_up_at, mjs_up_c, mjs_up_f]
          refine p_85e hR hM' a1 a2 a4 hr' hb (fun t3 P3 N3 L3 I3 b1 b2 b3 b4 b5 b6 b7 b8 => ?_) (fun e1 e2 L3 I3 b1 b2 b3 b4 => ?_) (fun g3 I3 b1 b2 => ?_)
          · have hx3 : xs K2 P2 N2 S2 C2 L2 K2 P3 N3 S2 C2 L3 := xs_get b3 (by omega) b6
            have e21 : K2.2.1 = K'.2.1 := by rw [hK22]
            have e11 : K'.2.1 = K.2.1 := by rw [hK2]
            simp +decide only [mjs_0, mjs_1, mjs_2, mjs_3, mjs_ble, true_and, Bool.false_eq_true, if_false, if_true, Nat.reduceAdd, Nat.reduceSub, Nat.reduceLeDiff, false_implies, true_implies, not_false_eq_true, not_true_eq_false, and_true, nI_1]
            refine ih (K2.2.1 - K2.1) (by omega) (i + 1) t3 fb2 K2 P3 N3 S2 C2 L3 I3 (Nat.le_refl _) (by omega) b1 b2 b5.1 (xs_tr hx (xs_tr a5 hx3)) (by have := hx3.2.2.1; omega) b7 (rm_tr hM ?_)
            intro H Lg d nc ns J Q hJ hA hq
            obtain ⟨D, hD, hDk⟩ : ∃ D, d + kr = D + 5 ∧ kr ≤ D + 5 := ⟨d + kr - 5, by omega, by omega⟩
            rw [hD] at hq ⊢
            refine mj_blk rfl ?_
            simp +decide only [mjs_0, mjs_1, mjs_2, mjs_3, mjs_ble, true_and, Bool.false_eq_true, if_false, if_true, Nat.reduceAdd, Nat.reduceSub, Nat.reduceLeDiff, false_implies, true_implies, not_false_eq_true, not_true_eq_false, and_true, mm_sh, hm, mjs_up_at, mjs_up_c, mjs_up_f]
            refine rq_127 hM' hJ hv' ht (fun _ => ?_) (fun e' => absurd e e')
            simp +decide only [mjs_0, mjs_1, mjs_2, mjs_3, mjs_ble, true_and, Bool.false_eq_true, if_false, if_true, Nat.reduceAdd, Nat.reduceSub, Nat.reduceLeDiff, false_implies, true_implies, not_false_eq_true, not_true_eq_false, and_true, mm_sh, hm, mjs_up_at, mjs_up_c, mjs_up_f]
            refine mj_blk rfl ?_
            simp +decide only [mjs_0, mjs_1, mjs_2, mjs_3, mjs_ble, true_and, Bool.false_eq_true, if_false, if_true, Nat.reduceAdd, Nat.reduceSub, Nat.reduceLeDiff, false_implies, true_implies, not_false_eq_true, not_true_eq_false, and_true, mm_sh, hm, mjs_up_at, mjs_up_c, mjs_up_f]
            refine rx_at a6 hDk hJ trivial (fun H2 J2 c1 c2 _ => ?_)
            simp +decide only [mjs_0, mjs_1, mjs_2, mjs_3, mjs_ble, true_and, Bool.false_eq_true, if_false, if_true, Nat.reduceAdd, Nat.reduceSub, Nat.reduceLeDiff, false_implies, true_implies, not_false_eq_true, not_true_eq_false, and_true, mm_sh, hm, mjs_up_at, mjs_up_c, mjs_up_f]
            refine b8 H2 Lg D nc ns J2 _ c2 (fun J3 c3 => ?_)
            simp +decide only [mjs_0, mjs_1, mjs_2, mjs_3, mjs_ble, true_and, Bool.false_eq_true, if_false, if_true, Nat.reduceAdd, Nat.reduceSub, Nat.reduceLeDiff, false_implies, true_implies, not_false_eq_true, not_true_eq_false, and_true, mm_sh, hm, mjs_up_at, mjs_up_c, mjs_up_f]
            exact mj_nv (hq H2 J3 c1 c3 trivial)
          · have hx3 : xs K2 P2 N2 S2 C2 L2 K2 [] N2 S2 C2 L3 := xs_get nx_rf (by simp only [List.length_nil]; omega) (by omega)
            have e21 : K2.2.1 = K'.2.1 := by rw [hK22]
            have e11 : K'.2.1 = K.2.1 := by rw [hK2]
            simp +decide only [mjs_0, mjs_1, mjs_2, mjs_3, mjs_ble, true_and, Bool.false_eq_true, if_false, if_true, Nat.reduceAdd, Nat.reduceSub, Nat.reduceLeDiff, false_implies, true_implies, not_false_eq_true, not_true_eq_false, and_true, nI_1]
            refine mj_blk rfl ?_
            simp +decide only [mjs_0, mjs_1, mjs_2, mjs_3, mjs_ble, true_and, Bool.false_eq_true, if_false, if_true, Nat.reduceAdd, Nat.reduceSub, Nat.reduceLeDiff, false_implies, true_implies, not_false_eq_true, not_true_eq_false, and_true]
            refine ⟨fun q => absurd q (nI_nlt (a := 30000) (b := i + 1) (by omega) (by decide)), fun _ => mj_blk rfl ?_⟩
            simp +decide only [mjs_0, mjs_1, mjs_2, mjs_3, mjs_ble, true_and, Bool.false_eq_true, if_false, if_true, Nat.reduceAdd, Nat.reduceSub, Nat.reduceLeDiff, false_implies, true_implies, not_false_eq_true, not_true_eq_false, and_true, mc_sh]
            refine cq_24e ?_
            simp +decide only [mjs_0, mjs_1, mjs_2, mjs_3, mjs_ble, true_and, Bool.false_eq_true, if_false, if_true, Nat.reduceAdd, Nat.reduceSub, Nat.reduceLeDiff, false_implies, true_implies, not_false_eq_true, not_true_eq_false, and_true]
            refine mj_blk rfl ?_
            simp +decide only [mjs_0, mjs_1, mjs_2, mjs_3, mjs_ble, true_and, Bool.false_eq_true, if_false, if_true, Nat.reduceAdd, Nat.reduceSub, Nat.reduceLeDiff, false_implies, true_implies, not_false_eq_true, not_true_eq_false, and_true]
            refine hQ2 e1 fb2 K2 N2 S2 C2 L3 I3 b1 b2 (xs_tr hx (xs_tr a5 hx3)) b3 (rx_in (z := 2) (by decide) rfl rfl rfl (rm_e hM ?_))
            intro H Lg d nc ns J Q hJ hA hq
            obtain ⟨D, hD, hDk⟩ : ∃ D, d + kr = D + 5 ∧ kr ≤ D + 5 := ⟨d + kr - 5, by omega, by omega⟩
            rw [hD]
            refine mj_blk rfl ?_
            simp +decide only [mjs_0, mjs_1, mjs_2, mjs_3, mjs_ble, true_and, Bool.false_eq_true, if_false, if_true, Nat.reduceAdd, Nat.reduceSub, Nat.reduceLeDiff, false_implies, true_implies, not_false_eq_true, not_true_eq_false, and_true, mm_sh, hm, mjs_up_at, mjs_up_c, mjs_up_f]
            refine rq_127 hM' hJ hv' ht (fun _ => ?_) (fun e' => absurd e e')
            simp +decide only [mjs_0, mjs_1, mjs_2, mjs_3, mjs_ble, true_and, Bool.false_eq_true, if_false, if_true, Nat.reduceAdd, Nat.reduceSub, Nat.reduceLeDiff, false_implies, true_implies, not_false_eq_true, not_true_eq_false, and_true, mm_sh, hm, mjs_up_at, mjs_up_c, mjs_up_f]
            refine mj_blk rfl ?_
            simp +decide only [mjs_0, mjs_1, mjs_2, mjs_3, mjs_ble, true_and, Bool.false_eq_true, if_false, if_true, Nat.reduceAdd, Nat.reduceSub, Nat.reduceLeDiff, false_implies, true_implies, not_false_eq_true, not_true_eq_false, and_true, mm_sh, hm, mjs_up_at, mjs_up_c, mjs_up_f]
            refine rx_at a6 hDk hJ trivial (fun H2 J2 c1 c2 _ => ?_)
            simp +decide only [mjs_0, mjs_1, mjs_2, mjs_3, mjs_ble, true_and, Bool.false_eq_true, if_false, if_true, Nat.reduceAdd, Nat.reduceSub, Nat.reduceLeDiff, false_implies, true_implies, not_false_eq_true, not_true_eq_false, and_true, mm_sh, hm, mjs_up_at, mjs_up_c, mjs_up_f]
            refine b4 H2 Lg D nc ns J2 _ c2 (fun J3 c3 => ?_)
            simp +decide only [mjs_0, mjs_1, mjs_2, mjs_3, mjs_ble, true_and, Bool.false_eq_true, if_false, if_true, Nat.reduceAdd, Nat.reduceSub, Nat.reduceLeDiff, false_implies, true_implies, not_false_eq_true, not_true_eq_false, and_true, mm_sh, hm, mjs_up_at, mjs_up_c, mjs_up_f]
            exact f_129e hM' (hq H2 J3 c1 c3 trivial)
          · have rf : RF X Rf 5 116 [.ref 36] (K2, P2, E, N2, S2, M, C2, O, L2) (some (.int (-1))) g3 → RY X Rf (kr + 1) 129 [.ref 36] (K, P, E, N, S, M, C, O, L) na (some (.int (-1))) g3 := by
              intro rf
              refine ry_in (z := 2) (by decide) rfl rfl rfl (rm_f hM ?_)
              intro H Lg d nc ns J Q hJ hA hq
              obtain ⟨D, hD, hDk⟩ : ∃ D, d + kr = D + 5 ∧ kr ≤ D + 5 := ⟨d + kr - 5, by omega, by omega⟩
              rw [hD]
              refine mj_blk rfl ?_
              simp +decide only [mjs_0, mjs_1, mjs_2, mjs_3, mjs_ble, true_and, Bool.false_eq_true, if_false, if_true, Nat.reduceAdd, Nat.reduceSub, Nat.reduceLeDiff, false_implies, true_implies, not_false_eq_true, not_true_eq_false, and_true, mm_sh, hm, mjs_up_at, mjs_up_c, mjs_up_f]
              refine rq_127 hM' hJ hv' ht (fun _ => ?_) (fun e' => absurd e e')
              simp +decide only [mjs_0, mjs_1, mjs_2, mjs_3, mjs_ble, true_and, Bool.false_eq_true, if_false, if_true, Nat.reduceAdd, Nat.reduceSub, Nat.reduceLeDiff, false_implies, true_implies, not_false_eq_true, not_true_eq_false, and_true, mm_sh, hm, mjs_up_at, mjs_up_c, mjs_up_f]
              refine mj_blk rfl ?_
              simp +decide only [mjs_0, mjs_1, mjs_2, mjs_3, mjs_ble, true_and, Bool.false_eq_true, if_false, if_true, Nat.reduceAdd, Nat.reduceSub, Nat.reduceLeDiff, false_implies, true_implies, not_false_eq_true, not_true_eq_false, and_true, mm_sh, hm, mjs_up_at, mjs_up_c, mjs_up_f]
              refine rx_at a6 hDk hJ trivial (fun H2 J2 c1 c2 _ => ?_)
              simp +decide only [mjs_0, mjs_1, mjs_2, mjs_3, mjs_ble, true_and, Bool.false_eq_true, if_false, if_true, Nat.reduceAdd, Nat.reduceSub, Nat.reduceLeDiff, false_implies, true_implies, not_false_eq_true, not_true_eq_false, and_true, mm_sh, hm, mjs_up_at, mjs_up_c, mjs_up_f]
              refine rf H2 Lg D nc ns J2 _ c2 (fun J3 c3 => ?_)
              simp +decide only [mjs_0, mjs_1, mjs_2, mjs_3, mjs_ble, true_and, Bool.false_eq_true, if_false, if_true, Nat.reduceAdd, Nat.reduceSub, Nat.reduceLeDiff, false_implies, true_implies, not_false_eq_true, not_true_eq_false, and_true, mm_sh, hm, mjs_up_at, mjs_up_c, mjs_up_f]
              exact f_129e hM' (hq J3 (rd_hx c3 c1))
            simp +decide only [mjs_0, mjs_1, mjs_2, mjs_3, mjs_ble, true_and, Bool.false_eq_true, if_false, if_true, Nat.reduceAdd, Nat.reduceSub, Nat.reduceLeDiff, false_implies, true_implies, not_false_eq_true, not_true_eq_false, and_true]
            rcases b2 with b2 | ⟨e0, L3, rfl, e3, e4, b2⟩
            · exact hQ3 g3 I3 b1 (Or.inl (rf b2)) (ry_130 (by omega) (rf b2))
            · have rx : RX X Rf (kr + 1) 129 [.ref 36] (K, P, E, N, S, M, C, O, L) na (some (.int (-1))) (K2, [], E, N2, S2, M, C2, O, L3) na := (rx_in (z := 2) (by decide) rfl rfl rfl (rm_e hM ?_))
              · exact hQ3 _ I3 b1 (Or.inr ⟨e0, K2, N2, S2, C2, L3, rfl, e3, e4, hK22.trans hK2, rx⟩) (ry_130e (B := na) (by omega) rx)
              intro H Lg d nc ns J Q hJ hA hq
              obtain ⟨D, hD, hDk⟩ : ∃ D, d + kr = D + 5 ∧ kr ≤ D + 5 := ⟨d + kr - 5, by omega, by omega⟩
              rw [hD]
              refine mj_blk rfl ?_
              simp +decide only [mjs_0, mjs_1, mjs_2, mjs_3, mjs_ble, true_and, Bool.false_eq_true, if_false, if_true, Nat.reduceAdd, Nat.reduceSub, Nat.reduceLeDiff, false_implies, true_implies, not_false_eq_true, not_true_eq_false, and_true, mm_sh, hm, mjs_up_at, mjs_up_c, mjs_up_f]
              refine rq_127 hM' hJ hv' ht (fun _ => ?_) (fun e' => absurd e e')
              simp +decide only [mjs_0, mjs_1, mjs_2, mjs_3, mjs_ble, true_and, Bool.false_eq_true, if_false, if_true, Nat.reduceAdd, Nat.reduceSub, Nat.reduceLeDiff, false_implies, true_implies, not_false_eq_true, not_true_eq_false, and_true, mm_sh, hm, mjs_up_at, mjs_up_c, mjs_up_f]
              refine mj_blk rfl ?_
              simp +decide only [mjs_0, mjs_1, mjs_2, mjs_3, mjs_ble, true_and, Bool.false_eq_true, if_false, if_true, Nat.reduceAdd, Nat.reduceSub, Nat.reduceLeDiff, false_implies, true_implies, not_false_eq_true, not_true_eq_false, and_true, mm_sh, hm, mjs_up_at, mjs_up_c, mjs_up_f]
              refine rx_at a6 hDk hJ trivial (fun H2 J2 c1 c2 _ => ?_)
              simp +decide only [mjs_0, mjs_1, mjs_2, mjs_3, mjs_ble, true_and, Bool.false_eq_true, if_false, if_true, Nat.reduceAdd, Nat.reduceSub, Nat.reduceLeDiff, false_implies, true_implies, not_false_eq_true, not_true_eq_false, and_true, mm_sh, hm, mjs_up_at, mjs_up_c, mjs_up_f]
              refine b2 H2 Lg D nc ns J2 _ c2 (fun J3 c3 => ?_)
              simp +decide only [mjs_0, mjs_1, mjs_2, mjs_3, mjs_ble, true_and, Bool.false_eq_true, if_false, if_true, Nat.reduceAdd, Nat.reduceSub, Nat.reduceLeDiff, false_implies, true_implies, not_false_eq_true, not_true_eq_false, and_true, mm_sh, hm, mjs_up_at, mjs_up_c, mjs_up_f]
              exact f_129e hM' (hq H2 J3 c1 c3 trivial)
        · have rf : RY X Rf (kr + 1) 129 [.ref 36] (K, P, E, N, S, M, C, O, L) na (some (.int (-1))) g2 := by
            refine ry_in (z := 2) (by decide) rfl rfl rfl (rm_f hM ?_)
            intro H Lg d nc ns J Q hJ hA hq
            obtain ⟨D, hD, hDk⟩ : ∃ D, d + kr = D + 5 ∧ kr ≤ D + 5 := ⟨d + kr - 5, by omega, by omega⟩
            rw [hD]
            refine mj_blk rfl ?_
            simp +decide only [mjs_0, mjs_1, mjs_2, mjs_3, mjs_ble, true_and, Bool.false_eq_true, if_false, if_true, Nat.reduceAdd, Nat.reduceSub, Nat.reduceLeDiff, false_implies, true_implies, not_false_eq_true, not_true_eq_false, and_true, mm_sh, hm, mjs_up_at, mjs_up_c, mjs_up_f]
            refine rq_127 hM' hJ hv' ht (fun _ => ?_) (fun e' => absurd e e')
            simp +decide only [mjs_0, mjs_1, mjs_2, mjs_3, mjs_ble, true_and, Bool.false_eq_true, if_false, if_true, Nat.reduceAdd, Nat.reduceSub, Nat.reduceLeDiff, false_implies, true_implies, not_false_eq_true, not_true_eq_false, and_true, mm_sh, hm, mjs_up_at, mjs_up_c, mjs_up_f]
            refine mj_blk rfl ?_
            simp +decide only [mjs_0, mjs_1, mjs_2, mjs_3, mjs_ble, true_and, Bool.false_eq_true, if_false, if_true, Nat.reduceAdd, Nat.reduceSub, Nat.reduceLeDiff, false_implies, true_implies, not_false_eq_true, not_true_eq_false, and_true, mm_sh, hm, mjs_up_at, mjs_up_c, mjs_up_f]
            refine ry_at a2 hDk hJ trivial (fun J2 c2 => ?_)
            simp +decide only [mjs_0, mjs_1, mjs_2, mjs_3, mjs_ble, true_and, Bool.false_eq_true, if_false, if_true, Nat.reduceAdd, Nat.reduceSub, Nat.reduceLeDiff, false_implies, true_implies, not_false_eq_true, not_true_eq_false, and_true, mm_sh, hm, mjs_up_at, mjs_up_c, mjs_up_f]
            refine f_116 s59_36 (rd_nle c2) ?_
            simp +decide only [mjs_0, mjs_1, mjs_2, mjs_3, mjs_ble, true_and, Bool.false_eq_true, if_false, if_true, Nat.reduceAdd, Nat.reduceSub, Nat.reduceLeDiff, false_implies, true_implies, not_false_eq_true, not_true_eq_false, and_true, mm_sh, hm, mjs_up_at, mjs_up_c, mjs_up_f]
            exact f_129e hM' (hq J2 c2)
          simp +decide only [mjs_0, mjs_1, mjs_2, mjs_3, mjs_ble, true_and, Bool.false_eq_true, if_false, if_true, Nat.reduceAdd, Nat.reduceSub, Nat.reduceLeDiff, false_implies, true_implies, not_false_eq_true, not_true_eq_false, and_true]
          exact hQ3 g2 I2 a1 (Or.inl rf) (ry_130 (by omega) rf)
      · simp +decide only [mjs_0, mjs_1, mjs_2, mjs_3, mjs_ble, true_and, Bool.false_eq_true, if_false, if_true, Nat.reduceAdd, Nat.reduceSub, Nat.reduceLeDiff, false_implies, true_implies, not_false_eq_true, not_true_eq_false, and_true]
        refine mj_blk rfl ?_
        simp +decide only [mjs_0, mjs_1, mjs_2, mjs_3, mjs_ble, true_and, Bool.false_eq_true, if_false, if_true, Nat.reduceAdd, Nat.reduceSub, Nat.reduceLeDiff, false_implies, true_implies, not_false_eq_true, not_true_eq_false, and_true]
        refine hQ1 fb' K' P' N' S' C' L' I' t hv' h' hp' hx hmu ht e (rx_in (z := 2) (by decide) rfl rfl rfl (rm_e hM ?_))
        intro H Lg d nc ns J Q hJ hA hq
        obtain ⟨D, hD, hDk⟩ : ∃ D, d + kr = D + 5 ∧ kr ≤ D + 5 := ⟨d + kr - 5, by omega, by omega⟩
        rw [hD]
        refine mj_blk rfl ?_
        simp +decide only [mjs_0, mjs_1, mjs_2, mjs_3, mjs_ble, true_and, Bool.false_eq_true, if_false, if_true, Nat.reduceAdd, Nat.reduceSub, Nat.reduceLeDiff, false_implies, true_implies, not_false_eq_true, not_true_eq_false, and_true, mm_sh, hm, mjs_up_at, mjs_up_c, mjs_up_f]
        refine rq_127 hM' hJ hv' ht (fun e' => absurd e' e) (fun _ => ?_)
        simp +decide only [mjs_0, mjs_1, mjs_2, mjs_3, mjs_ble, true_and, Bool.false_eq_true, if_false, if_true, Nat.reduceAdd, Nat.reduceSub, Nat.reduceLeDiff, false_implies, true_implies, not_false_eq_true, not_true_eq_false, and_true, mm_sh, hm, mjs_up_at, mjs_up_c, mjs_up_f]
        refine mj_blk rfl ?_
        simp +decide only [mjs_0, mjs_1, mjs_2, mjs_3, mjs_ble, true_and, Bool.false_eq_true, if_false, if_true, Nat.reduceAdd, Nat.reduceSub, Nat.reduceLeDiff, false_implies, true_implies, not_false_eq_true, not_true_eq_false, and_true, mm_sh, hm, mjs_up_at, mjs_up_c, mjs_up_f]
        exact hq H J hx_rf hJ trivial
  refine mj_enter (z := (4, [], mb_22)) (by decide) rfl rfl ?_
  refine mj_blk rfl ?_
  simp +decide only [mjs_0, mjs_1, mjs_2, mjs_3, mjs_ble, true_and, Bool.false_eq_true, if_false, if_true, Nat.reduceAdd, Nat.reduceSub, Nat.reduceLeDiff, false_implies, true_implies, not_false_eq_true, not_true_eq_false, and_true, mc_sh, hr, mjs_up_at, mjs_up_c, mjs_up_f]
  refine p_85e hR hM' hv h hp hr' hb (fun t3 P3 N3 L3 I3 b1 b2 b3 b4 b5 b6 b7 b8 => ?_) (fun e1 e2 L3 I3 b1 b2 b3 b4 => ?_) (fun g3 I3 b1 b2 => ?_)
  · simp +decide only [mjs_0, mjs_1, mjs_2, mjs_3, mjs_ble, true_and, Bool.false_eq_true, if_false, if_true, Nat.reduceAdd, Nat.reduceSub, Nat.reduceLeDiff, false_implies, true_implies, not_false_eq_true, not_true_eq_false, and_true]
    refine mj_nv (loop (K.2.1 - K.1) 0 t3 fb K P3 N3 S C L3 I3 (Nat.le_refl _) (by omega) b1 b2 b5.1 (xs_get b3 (by omega) b6) (by unfold mu; omega) b7 ?_)
    intro H Lg d nc ns J Q hJ hA hq
    obtain ⟨D, hD, hDk⟩ : ∃ D, d + kr = D + 5 ∧ kr ≤ D + 5 := ⟨d + kr - 5, by omega, by omega⟩
    rw [hD] at hq ⊢
    refine mj_blk rfl ?_
    simp +decide only [mjs_0, mjs_1, mjs_2, mjs_3, mjs_ble, true_and, Bool.false_eq_true, if_false, if_true, Nat.reduceAdd, Nat.reduceSub, Nat.reduceLeDiff, false_implies, true_implies, not_false_eq_true, not_true_eq_false, and_true, mm_sh, hm, mjs_up_at, mjs_up_c, mjs_up_f]
    refine b8 H Lg D nc ns J _ hJ (fun J3 c3 => ?_)
    simp +decide only [mjs_0, mjs_1, mjs_2, mjs_3, mjs_ble, true_and, Bool.false_eq_true, if_false, if_true, Nat.reduceAdd, Nat.reduceSub, Nat.reduceLeDiff, false_implies, true_implies, not_false_eq_true, not_true_eq_false, and_true, mm_sh, hm, mjs_up_at, mjs_up_c, mjs_up_f]
    exact mj_nv (hq H J3 hx_rf c3 trivial)
  · simp +decide only [mjs_0, mjs_1, mjs_2, mjs_3, mjs_ble, true_and, Bool.false_eq_true, if_false, if_true, Nat.reduceAdd, Nat.reduceSub, Nat.reduceLeDiff, false_implies, true_implies, not_false_eq_true, not_true_eq_false, and_true]
    refine mj_blk rfl ?_
    simp +decide only [mjs_0, mjs_1, mjs_2, mjs_3, mjs_ble, true_and, Bool.false_eq_true, if_false, if_true, Nat.reduceAdd, Nat.reduceSub, Nat.reduceLeDiff, false_implies, true_implies, not_false_eq_true, not_true_eq_false, and_true]
    refine mj_blk rfl ?_
    simp +decide only [mjs_0, mjs_1, mjs_2, mjs_3, mjs_ble, true_and, Bool.false_eq_true, if_false, if_true, Nat.reduceAdd, Nat.reduceSub, Nat.reduceLeDiff, false_implies, true_implies, not_false_eq_true, not_true_eq_false, and_true, mc_sh]
    refine cq_24e ?_
    simp +decide only [mjs_0, mjs_1, mjs_2, mjs_3, mjs_ble, true_and, Bool.false_eq_true, if_false, if_true, Nat.reduceAdd, Nat.reduceSub, Nat.reduceLeDiff, false_implies, true_implies, not_false_eq_true, not_true_eq_false, and_true]
    refine mj_blk rfl ?_
    simp +decide only [mjs_0, mjs_1, mjs_2, mjs_3, mjs_ble, true_and, Bool.false_eq_true, if_false, if_true, Nat.reduceAdd, Nat.reduceSub, Nat.reduceLeDiff, false_implies, true_implies, not_false_eq_true, not_true_eq_false, and_true]
    refine hQ2 e1 fb K N S C L3 I3 b1 b2 (xs_get nx_rf (by simp only [List.length_nil]; omega) (by omega)) b3 (rx_in (z := 2) (by decide) rfl rfl rfl ?_)
    intro H Lg d nc ns J Q hJ hA hq
    obtain ⟨D, hD, hDk⟩ : ∃ D, d + kr = D + 5 ∧ kr ≤ D + 5 := ⟨d + kr - 5, by omega, by omega⟩
    rw [hD]
    refine mj_blk rfl ?_
    simp +decide only [mjs_0, mjs_1, mjs_2, mjs_3, mjs_ble, true_and, Bool.false_eq_true, if_false, if_true, Nat.reduceAdd, Nat.reduceSub, Nat.reduceLeDiff, false_implies, true_implies, not_false_eq_true, not_true_eq_false, and_true, mm_sh, hm, mjs_up_at, mjs_up_c, mjs_up_f]
    refine b4 H Lg D nc ns J _ hJ (fun J3 c3 => ?_)
    simp +decide only [mjs_0, mjs_1, mjs_2, mjs_3, mjs_ble, true_and, Bool.false_eq_true, if_false, if_true, Nat.reduceAdd, Nat.reduceSub, Nat.reduceLeDiff, false_implies, true_implies, not_false_eq_true, not_true_eq_false, and_true, mm_sh, hm, mjs_up_at, mjs_up_c, mjs_up_f]
    exact f_129e hM' (hq H J3 hx_rf c3 trivial)
  · simp +decide only [mjs_0, mjs_1, mjs_2, mjs_3, mjs_ble, true_and, Bool.false_eq_true, if_false, if_true, Nat.reduceAdd, Nat.reduceSub, Nat.reduceLeDiff, false_implies, true_implies, not_false_eq_true, not_true_eq_false, and_true]
    rcases b2 with b2 | ⟨e0, L3, rfl, e3, e4, b2⟩
    · have rf : RY X Rf (kr + 1) 129 [.ref 36] (K, P, E, N, S, M, C, O, L) na (some (.int (-1))) g3 := by
        refine ry_in (z := 2) (by decide) rfl rfl rfl ?_
        intro H Lg d nc ns J Q hJ hA hq
        obtain ⟨D, hD, hDk⟩ : ∃ D, d + kr = D + 5 ∧ kr ≤ D + 5 := ⟨d + kr - 5, by omega, by omega⟩
        rw [hD]
        refine mj_blk rfl ?_
        simp +decide only [mjs_0, mjs_1, mjs_2, mjs_3, mjs_ble, true_and, Bool.false_eq_true, if_false, if_true, Nat.reduceAdd, Nat.reduceSub, Nat.reduceLeDiff, false_implies, true_implies, not_false_eq_true, not_true_eq_false, and_true, mm_sh, hm, mjs_up_at, mjs_up_c, mjs_up_f]
        refine b2 H Lg D nc ns J _ hJ (fun J3 c3 => ?_)
        simp +decide only [mjs_0, mjs_1, mjs_2, mjs_3, mjs_ble, true_and, Bool.false_eq_true, if_false, if_true, Nat.reduceAdd, Nat.reduceSub, Nat.reduceLeDiff, false_implies, true_implies, not_false_eq_true, not_true_eq_false, and_true, mm_sh, hm, mjs_up_at, mjs_up_c, mjs_up_f]
        exact f_129e hM' (hq J3 c3)
      exact hQ3 g3 I3 b1 (Or.inl rf) (ry_130 (by omega) rf)
    · have rx : RX X Rf (kr + 1) 129 [.ref 36] (K, P, E, N, S, M, C, O, L) na (some (.int (-1))) (K, [], E, N, S, M, C, O, L3) na := (rx_in (z := 2) (by decide) rfl rfl rfl ?_)
      · exact hQ3 _ I3 b1 (Or.inr ⟨e0, K, N, S, C, L3, rfl, e3, e4, rfl, rx⟩) (ry_130e (B := na) (by omega) rx)
      intro H Lg d nc ns J Q hJ hA hq
      obtain ⟨D, hD, hDk⟩ : ∃ D, d + kr = D + 5 ∧ kr ≤ D + 5 := ⟨d + kr - 5, by omega, by omega⟩
      rw [hD]
      refine mj_blk rfl ?_
      simp +decide only [mjs_0, mjs_1, mjs_2, mjs_3, mjs_ble, true_and, Bool.false_eq_true, if_false, if_true, Nat.reduceAdd, Nat.reduceSub, Nat.reduceLeDiff, false_implies, true_implies, not_false_eq_true, not_true_eq_false, and_true, mm_sh, hm, mjs_up_at, mjs_up_c, mjs_up_f]
      refine b2 H Lg D nc ns J _ hJ (fun J3 c3 => ?_)
      simp +decide only [mjs_0, mjs_1, mjs_2, mjs_3, mjs_ble, true_and, Bool.false_eq_true, if_false, if_true, Nat.reduceAdd, Nat.reduceSub, Nat.reduceLeDiff, false_implies, true_implies, not_false_eq_true, not_true_eq_false, and_true, mm_sh, hm, mjs_up_at, mjs_up_c, mjs_up_f]
      exact f_129e hM' (hq H J3 hx_rf c3 trivial)
/-- with b = 0: needExpanded -/
theorem xd_n (hD : XD X Rf vb kc kr n) {D : Nat} (hk : kc ≤ D) (hn : K.2.2 + n = 40) (hr' : nc + 1 ≤ X.2.2.1 ∧ ns + 6 ≤ X.2.2.2) (hv : gv (K, P, E, N, S, M, C, O, L)) (hw : gw K S) (hp : P.length ≤ 10000) (h : RC fb vb (K, P, E, N, S, M, C, O, L) I)
    (hQ1 : ∀ fb' K' P' N' S' C' L' I' t, gv (K', P', E, N', S', M, C', O, L') → RC fb' vb (K', P', E, N', S', M, C', O, L') I' → P'.length ≤ 9999 → xs K P N S C L K' P' N' S' C' L' → mu K' P' L' < mu K P L → tv N'.2.2 t → ¬ gx S' t → RX X Rf (kr + 1) 130 [.ref 36] (K, P, E, N, S, M, C, O, L) na (some (.int (nI (rt t)))) (K', P', E, N', S', M, C', O, L') na → Q (.inl (some (.int (nI t)))) (sh59, I', Lg, Rf, nc, ns))
    (hQ3 : ∀ g' I', RCf fb vb g' I' → RY X Rf (kr + 1) 130 [.ref 36] (K, P, E, N, S, M, C, O, L) na (some (.int (-1))) g' → Q (.inr 500) (sh59, I', Lg, Rf, nc + 1, ns + 6)) :
    mj_call X mj_P (mj_bi X) D 22 [.ref 28, .int 0] (sh59, I, Lg, Rf, nc, ns) Q := by
  refine hD fb K P E N S M C O L 0 nc ns Lg I Q D hk hn hr' hv hw hp (Or.inl rfl) h (fun fb' K' P' N' S' C' L' I' t a1 a2 a3 a4 a5 a6 a7 a8 => hQ1 fb' K' P' N' S' C' L' I' t a1 a2 a3 a4 a5 a6 a7 (rx_130 ?_ a8)) (fun e => absurd e (by decide)) (fun g' I' a1 a2 a3 => hQ3 g' I' a1 a3)
  have := rt_lt a1.2.2.1.2.1 a1.2.2.1.1 a6
  omega
end MJLV
