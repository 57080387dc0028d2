/-! NUMBERS AND ROMAN NUMERALS PUT, in both -/
theorem lN_div {a d : Nat} (ha : a < 2 ^ 31) (h0 : 0 < d) (hd : d < 2 ^ 31) : lN a / lN d = lN (a / d) := by
  apply Int64.toInt_inj.mp
  rw [lg_ldiv_nonneg (by rw [lN_toInt ha]; omega) (by rw [lN_toInt hd]; omega), lN_toInt ha, lN_toInt hd, lN_toInt (Nat.lt_of_le_of_lt (Nat.div_le_self a d) ha)]
  first | rfl | exact (Int.natCast_ediv _ _).symm
theorem lN_rem {a d : Nat} (ha : a < 2 ^ 31) (h0 : 0 < d) (hd : d < 2 ^ 31) : lN a - lN a / lN d * lN d = lN (a % d) := by
  rw [lN_div ha h0 hd, lN_mul, lN_sub (Nat.div_mul_le_self a d)]
  exact congrArg lN (by have := Nat.div_add_mod' a d; omega)
theorem nab_l {x : Int32} (h : x < 0) (hm : x ≠ -2147483648) : -x.toInt64 = lN (nab x) := by
  have hl := nab_lt hm
  have h1 : x.toInt < 0 := by
    have := Int32.lt_iff_toInt_lt.mp h
    exact this
  have h2 := x.le_toInt
  apply Int64.toInt_inj.mp
  rw [lN_toInt hl, Int64.toInt_neg, Int32.toInt_toInt64]
  unfold nab at hl ⊢
  rw [Int.bmod_def]
  omega
/-- one place of a roman numeral put: a, b, c stand for 1, 5 and 10 -/
def rpl (c : Nat) : Nat → List Nat → List Nat
  | 0, P => P
  | n + 1, P => rpl c n (pch c :: P)
theorem rpl_len {c : Nat} : ∀ {n : Nat} {P : List Nat}, (rpl c n P).length = P.length + n
  | 0, _ => rfl
  | n + 1, P => by
    show (rpl c n (pch c :: P)).length = _
    rw [rpl_len, List.length_cons]
    omega
theorem rpl_mem {c : Nat} {p : Nat → Prop} (hp : p (pch c)) : ∀ {n : Nat} {P : List Nat}, (∀ t ∈ P, p t) → ∀ t ∈ rpl c n P, p t
  | 0, _, h => h
  | n + 1, P, h => rpl_mem (P := pch c :: P) hp (fun t ht => by
      rcases List.mem_cons.mp ht with rfl | ht
      · exact hp
      · exact h t ht)
def rdg (q a b c : Nat) (P : List Nat) : List Nat := if q % 5 = 4 then pch a :: pch (if q = 9 then c else b) :: P else if 5 ≤ q then pch b :: rpl a (q % 5) P else rpl a (q % 5) P
theorem rdg_len {q a b c : Nat} {P : List Nat} : (rdg q a b c P).length ≤ P.length + 4 := by
  unfold rdg
  split
  · simp only [List.length_cons]
    omega
  · split
    · rw [List.length_cons, rpl_len]
      omega
    · rw [rpl_len]
      omega
theorem rdg_mem {q a b c : Nat} {p : Nat → Prop} (ha : p (pch a)) (hb : p (pch b)) (hc : p (pch c)) {P : List Nat} (h : ∀ t ∈ P, p t) : ∀ t ∈ rdg q a b c P, p t := by
  unfold rdg
  split
  · intro t ht
    rcases List.mem_cons.mp ht with rfl | ht
    · exact ha
    · rcases List.mem_cons.mp ht with rfl | ht
      · split <;> assumption
      · exact h t ht
  · split
    · intro t ht
      rcases List.mem_cons.mp ht with rfl | ht
      · exact hb
      · exact rpl_mem ha h t ht
    · exact rpl_mem ha h
/-- n (at most 9999) as a roman numeral -/
def grm (n : Nat) (P : List Nat) : List Nat := rpl 109 (n / 1000) (rdg (n / 100 % 10) 99 100 109 (rdg (n / 10 % 10) 120 108 99 (rdg (n % 10) 105 118 120 P)))
section MJDG
variable {X : mj_X} {d nc ns : Nat} {Q : mj_Q} {I I' J J' H : Nat → Nat → Int32} {Lg : Nat → Nat → Int64} {Rf : Nat → Nat → Option Nat} {fb : Nat → Nat → Int32} {vb : Nat → Int32} {K : Nat × Nat × Nat} {P : List Nat} {E : sgE} {N : sgN} {S : sgS} {M : sgM} {C : sgC} {O : sgO} {L L' : sgL}
theorem cq_31 (hR : mj_Rt mp_R Rf) (h : RC fb vb (K, P, E, N, S, M, C, O, L) I) {x : Int32} (hx : x ≠ -2147483648) (hl : P.length + 12 < 10100) (hQ : ∀ I', RC fb vb (K, pnm x P, E, N, S, M, C, O, L) I' → Q (.inl none) (sh59, I', Lg, Rf, nc, ns)) : mj_call X mj_P (mj_bi X) (d + 3) 31 [.ref 28, .int x] (sh59, I, Lg, Rf, nc, ns) Q := by
  have hr := mc_rf hR
  have ha := nab_lt hx
  have e10 : ∀ a : Nat, a < 2 ^ 31 → (48 : Int32) + (nI a - nI a / 10 * 10) = nI (48 + a % 10) := fun a h => by
    rw [show nI a - nI a / 10 * 10 = nI (a % 10) from pk_rem h (by decide) (by decide)]
    exact nI_add 48 _
  have d10 : ∀ a : Nat, a < 2 ^ 31 → nI a / 10 = nI (a / 10) := fun a h => pk_div h (by decide) (by decide)
  have K43 : ∀ (P1 : List Nat) (I1 : Nat → Nat → Int32) (w2 w3 : Option Value), P1.length + 1 < 10100 → RC fb vb (K, P1, E, N, S, M, C, O, L) I1 → (∀ I', RC fb vb (K, (if x < 0 then pch 45 :: P1 else P1), E, N, S, M, C, O, L) I' → Q (.inl none) (sh59, I', Lg, Rf, nc, ns)) → mj_rn X (mj_hd []) (mj_call X mj_P (mj_bi X) (d + 2)) mb_31 43 [some (.ref 28), some (.int x), w2, w3] [] (sh59, I1, Lg, Rf, nc, ns) Q := by
    intro P1 I1 w2 w3 h1 h2 hq
    refine mj_blk rfl ?_
    simp +decide only [mjs_0, mjs_1, mjs_2, mjs_3, mjs_ble, true_and, Bool.false_eq_true, if_false, if_true, Nat.reduceAdd, Nat.reduceSub, Nat.reduceLeDiff, false_implies, true_implies, not_false_eq_true, not_true_eq_false, and_true]
    refine ⟨fun q => mj_blk rfl ?_, fun q => mj_blk rfl ?_⟩
    · rw [if_neg (fun hh => Int32.not_lt.mpr q hh)] at hq
      simp +decide only [mjs_0, mjs_1, mjs_2, mjs_3, mjs_ble, true_and, Bool.false_eq_true, if_false, if_true, Nat.reduceAdd, Nat.reduceSub, Nat.reduceLeDiff, false_implies, true_implies, not_false_eq_true, not_true_eq_false, and_true]
      exact hq I1 h2
    · rw [if_pos (Int32.not_le.mp q)] at hq
      simp +decide only [mjs_0, mjs_1, mjs_2, mjs_3, mjs_ble, true_and, Bool.false_eq_true, if_false, if_true, Nat.reduceAdd, Nat.reduceSub, Nat.reduceLeDiff, false_implies, true_implies, not_false_eq_true, not_true_eq_false, and_true, mc_sh]
      refine cq_30 (c := 45) hR h2 h1 (fun I' h' _ => ?_) (by decide)
      simp +decide only [mjs_0, mjs_1, mjs_2, mjs_3, mjs_ble, true_and, Bool.false_eq_true, if_false, if_true, Nat.reduceAdd, Nat.reduceSub, Nat.reduceLeDiff, false_implies, true_implies, not_false_eq_true, not_true_eq_false, and_true]
      refine mj_blk rfl ?_
      simp +decide only [mjs_0, mjs_1, mjs_2, mjs_3, mjs_ble, true_and, Bool.false_eq_true, if_false, if_true, Nat.reduceAdd, Nat.reduceSub, Nat.reduceLeDiff, false_implies, true_implies, not_false_eq_true, not_true_eq_false, and_true]
      exact hq I' h'
  have L7 : ∀ (f i a : Nat) (P1 : List Nat) (I1 : Nat → Nat → Int32), i + f = 10 → 1 ≤ i → a < 2 ^ 31 → P1.length + f + 1 < 10100 → RC fb vb (K, P1, E, N, S, M, C, O, L) I1 → (∀ I', RC fb vb (K, (if x < 0 then pch 45 :: pdg f a P1 else pdg f a P1), E, N, S, M, C, O, L) I' → Q (.inl none) (sh59, I', Lg, Rf, nc, ns)) → mj_rn X (mj_hd []) (mj_call X mj_P (mj_bi X) (d + 2)) mb_31 7 [some (.ref 28), some (.int x), some (.int (nI a)), some (.int (nI i))] [] (sh59, I1, Lg, Rf, nc, ns) Q := by
    intro f
    induction f with
    | zero =>
      intro i a P1 I1 hi h1 ha h2 h3 hq
      obtain rfl : i = 10 := by omega
      refine mj_blk rfl ?_
      simp +decide only [mjs_0, mjs_1, mjs_2, mjs_3, mjs_ble, true_and, Bool.false_eq_true, if_false, if_true, Nat.reduceAdd, Nat.reduceSub, Nat.reduceLeDiff, false_implies, true_implies, not_false_eq_true, not_true_eq_false, and_true]
      exact K43 P1 I1 _ _ (by omega) h3 hq
    | succ f ih =>
      intro i a P1 I1 hi h1 ha h2 h3 hq
      refine mj_blk rfl ?_
      simp +decide only [mjs_0, mjs_1, mjs_2, mjs_3, mjs_ble, true_and, Bool.false_eq_true, if_false, if_true, Nat.reduceAdd, Nat.reduceSub, Nat.reduceLeDiff, false_implies, true_implies, not_false_eq_true, not_true_eq_false, and_true]
      refine ⟨fun q => absurd q (nI_ge (a := i) (b := 10) (by omega) (by decide)), fun _ => mj_blk rfl ?_⟩
      simp +decide only [mjs_0, mjs_1, mjs_2, mjs_3, mjs_ble, true_and, Bool.false_eq_true, if_false, if_true, Nat.reduceAdd, Nat.reduceSub, Nat.reduceLeDiff, false_implies, true_implies, not_false_eq_true, not_true_eq_false, and_true]
      refine ⟨fun q => absurd q (nI_ne0 (by omega) (by omega)), fun _ => mj_blk rfl ?_⟩
      simp +decide only [mjs_0, mjs_1, mjs_2, mjs_3, mjs_ble, true_and, Bool.false_eq_true, if_false, if_true, Nat.reduceAdd, Nat.reduceSub, Nat.reduceLeDiff, false_implies, true_implies, not_false_eq_true, not_true_eq_false, and_true]
      unfold pdg at hq
      refine ⟨fun q => ?_, fun q => mj_blk rfl ?_⟩
      · have : a = 0 := by
          by_cases h0 : a = 0
          · exact h0
          · exact absurd q (nI_nle (by omega) ha)
        rw [if_pos this] at hq
        exact K43 P1 I1 _ _ (by omega) h3 hq
      · have : a ≠ 0 := fun h0 => q (by rw [h0]; decide)
        rw [if_neg this] at hq
        simp +decide only [mjs_0, mjs_1, mjs_2, mjs_3, mjs_ble, true_and, Bool.false_eq_true, if_false, if_true, Nat.reduceAdd, Nat.reduceSub, Nat.reduceLeDiff, false_implies, true_implies, not_false_eq_true, not_true_eq_false, and_true, e10 a ha, mc_sh]
        refine cq_30 (c := 48 + a % 10) hR h3 (by omega) (fun I' h' _ => ?_) (by omega)
        simp +decide only [mjs_0, mjs_1, mjs_2, mjs_3, mjs_ble, true_and, Bool.false_eq_true, if_false, if_true, Nat.reduceAdd, Nat.reduceSub, Nat.reduceLeDiff, false_implies, true_implies, not_false_eq_true, not_true_eq_false, and_true, d10 a ha, nI_1]
        exact ih (i + 1) (a / 10) _ I' (by omega) (by omega) (by omega) (by rw [List.length_cons]; omega) h' hq
  have ea : (if 0 ≤ x then x else 0 - x) = nI (nab x) := by
    by_cases hh : 0 ≤ x
    · rw [if_pos hh]
      exact nab_p (Int32.not_lt.mpr hh)
    · rw [if_neg hh]
      exact (nab_n (Int32.not_le.mp hh) hx).1
  unfold pnm at hQ
  refine mj_enter (z := (4, [], mb_31)) (by decide) rfl rfl ?_
  refine mj_blk rfl ?_
  simp +decide only [mjs_0, mjs_1, mjs_2, mjs_3, mjs_ble, true_and, Bool.false_eq_true, if_false, if_true, Nat.reduceAdd, Nat.reduceSub, Nat.reduceLeDiff, false_implies, true_implies, not_false_eq_true, not_true_eq_false, and_true]
  refine c_900 ?_
  rw [ea]
  simp +decide only [mjs_0, mjs_1, mjs_2, mjs_3, mjs_ble, true_and, Bool.false_eq_true, if_false, if_true, Nat.reduceAdd, Nat.reduceSub, Nat.reduceLeDiff, false_implies, true_implies, not_false_eq_true, not_true_eq_false, and_true]
  refine mj_blk rfl ?_
  simp +decide only [mjs_0, mjs_1, mjs_2, mjs_3, mjs_ble, true_and, Bool.false_eq_true, if_false, if_true, Nat.reduceAdd, Nat.reduceSub, Nat.reduceLeDiff, false_implies, true_implies, not_false_eq_true, not_true_eq_false, and_true]
  refine mj_blk rfl ?_
  simp +decide only [mjs_0, mjs_1, mjs_2, mjs_3, mjs_ble, true_and, Bool.false_eq_true, if_false, if_true, Nat.reduceAdd, Nat.reduceSub, Nat.reduceLeDiff, false_implies, true_implies, not_false_eq_true, not_true_eq_false, and_true]
  refine mj_blk rfl ?_
  simp +decide only [mjs_0, mjs_1, mjs_2, mjs_3, mjs_ble, true_and, Bool.false_eq_true, if_false, if_true, Nat.reduceAdd, Nat.reduceSub, Nat.reduceLeDiff, false_implies, true_implies, not_false_eq_true, not_true_eq_false, and_true, e10 (nab x) ha, mc_sh]
  refine cq_30 (c := 48 + nab x % 10) hR h (by omega) (fun I' h' _ => ?_) (by omega)
  simp +decide only [mjs_0, mjs_1, mjs_2, mjs_3, mjs_ble, true_and, Bool.false_eq_true, if_false, if_true, Nat.reduceAdd, Nat.reduceSub, Nat.reduceLeDiff, false_implies, true_implies, not_false_eq_true, not_true_eq_false, and_true, d10 (nab x) ha]
  exact L7 9 1 (nab x / 10) _ I' rfl (by decide) (by omega) (by rw [List.length_cons]; omega) h' hQ
theorem rq_138 (hM' : mj_Rt mm_R Rf) (h : RR H (K, P, E, N, S, M, C, O, L) J) {x : Int32} (hx : x ≠ -2147483648) (hl : P.length + 12 < 10600) (hQ : ∀ J', RR H (K, pnm x P, E, N, S, M, C, O, L) J' → Q (.inl none) (sh59, J', Lg, Rf, nc, ns)) : mj_call X mj_P (mj_bi X) (d + 3) 138 [.ref 36, .int x] (sh59, J, Lg, Rf, nc, ns) Q := by
  have ha := nab_lt hx
  have e10 : ∀ a : Nat, a < 2 ^ 31 → ((48 : Int64) + (lN a - lN a / 10 * 10)).toInt32 = nI (48 + a % 10) := fun a h => by
    rw [show lN a - lN a / 10 * 10 = lN (a % 10) from lN_rem h (by decide) (by decide)]
    rw [show (48 : Int64) + lN (a % 10) = lN (48 + a % 10) from lN_add 48 _, lN_i]
  have d10 : ∀ a : Nat, a < 2 ^ 31 → lN a / 10 = lN (a / 10) := fun a h => lN_div h (by decide) (by decide)
  have K62 : ∀ (P1 : List Nat) (J1 : Nat → Nat → Int32) (w2 w3 : Option Value), P1.length < 10600 → RR H (K, P1, E, N, S, M, C, O, L) J1 → (∀ J', RR H (K, (if x < 0 then pch 45 :: P1 else P1), E, N, S, M, C, O, L) J' → Q (.inl none) (sh59, J', Lg, Rf, nc, ns)) → mj_rn X (mj_hd []) (mj_call X mj_P (mj_bi X) (d + 2)) mb_138 62 [some (.ref 36), some (.int x), w2, w3] [] (sh59, J1, Lg, Rf, nc, ns) Q := by
    intro P1 J1 w2 w3 h1 h2 hq
    refine mj_blk rfl ?_
    simp +decide only [mjs_0, mjs_1, mjs_2, mjs_3, mjs_ble, true_and, Bool.false_eq_true, if_false, if_true, Nat.reduceAdd, Nat.reduceSub, Nat.reduceLeDiff, false_implies, true_implies, not_false_eq_true, not_true_eq_false, and_true]
    refine ⟨fun q => mj_blk rfl ?_, fun q => mj_blk rfl ?_⟩
    · rw [if_neg (fun hh => Int32.not_lt.mpr q hh)] at hq
      simp +decide only [mjs_0, mjs_1, mjs_2, mjs_3, mjs_ble, true_and, Bool.false_eq_true, if_false, if_true, Nat.reduceAdd, Nat.reduceSub, Nat.reduceLeDiff, false_implies, true_implies, not_false_eq_true, not_true_eq_false, and_true]
      exact hq J1 h2
    · rw [if_pos (Int32.not_le.mp q)] at hq
      simp +decide only [mjs_0, mjs_1, mjs_2, mjs_3, mjs_ble, true_and, Bool.false_eq_true, if_false, if_true, Nat.reduceAdd, Nat.reduceSub, Nat.reduceLeDiff, false_implies, true_implies, not_false_eq_true, not_true_eq_false, and_true, mm_sh]
      refine rq_136 (c := 45) hM' h2 h1 (fun J' h' => ?_) (by decide)
      simp +decide only [mjs_0, mjs_1, mjs_2, mjs_3, mjs_ble, true_and, Bool.false_eq_true, if_false, if_true, Nat.reduceAdd, Nat.reduceSub, Nat.reduceLeDiff, false_implies, true_implies, not_false_eq_true, not_true_eq_false, and_true]
      refine mj_blk rfl ?_
      simp +decide only [mjs_0, mjs_1, mjs_2, mjs_3, mjs_ble, true_and, Bool.false_eq_true, if_false, if_true, Nat.reduceAdd, Nat.reduceSub, Nat.reduceLeDiff, false_implies, true_implies, not_false_eq_true, not_true_eq_false, and_true]
      exact hq J' h'
  have L33 : ∀ (f a : Nat) (P1 : List Nat) (J1 : Nat → Nat → Int32), a < 2 ^ 31 → a < 10 ^ f → P1.length + f < 10600 → RR H (K, P1, E, N, S, M, C, O, L) J1 → (∀ J', RR H (K, (if x < 0 then pch 45 :: pdg f a P1 else pdg f a P1), E, N, S, M, C, O, L) J' → Q (.inl none) (sh59, J', Lg, Rf, nc, ns)) → mj_rn X (mj_hd []) (mj_call X mj_P (mj_bi X) (d + 2)) mb_138 33 [some (.ref 36), some (.int x), some (.long (lN a)), none] [] (sh59, J1, Lg, Rf, nc, ns) Q := by
    intro f
    induction f with
    | zero =>
      intro a P1 J1 ha haf h2 h3 hq
      obtain rfl : a = 0 := by omega
      refine mj_blk rfl ?_
      simp +decide only [mjs_0, mjs_1, mjs_2, mjs_3, mjs_ble, true_and, Bool.false_eq_true, if_false, if_true, Nat.reduceAdd, Nat.reduceSub, Nat.reduceLeDiff, false_implies, true_implies, not_false_eq_true, not_true_eq_false, and_true]
      exact K62 P1 J1 _ _ (by omega) h3 hq
    | succ f ih =>
      intro a P1 J1 ha haf h2 h3 hq
      unfold pdg at hq
      refine mj_blk rfl ?_
      simp +decide only [mjs_0, mjs_1, mjs_2, mjs_3, mjs_ble, true_and, Bool.false_eq_true, if_false, if_true, Nat.reduceAdd, Nat.reduceSub, Nat.reduceLeDiff, false_implies, true_implies, not_false_eq_true, not_true_eq_false, and_true]
      refine ⟨fun q => ?_, fun q => mj_blk rfl ?_⟩
      · have h0 : lN a ≤ lN 0 := (lg_cmp_le (lN a) 0).mp q
        have : a = 0 := by
          have := (lN_le ha (by decide)).mp h0
          omega
        rw [if_pos this] at hq
        exact K62 P1 J1 _ _ (by omega) h3 hq
      · have : a ≠ 0 := fun h0 => q ((lg_cmp_le (lN a) 0).mpr (by rw [h0]; decide))
        rw [if_neg this] at hq
        simp +decide only [mjs_0, mjs_1, mjs_2, mjs_3, mjs_ble, true_and, Bool.false_eq_true, if_false, if_true, Nat.reduceAdd, Nat.reduceSub, Nat.reduceLeDiff, false_implies, true_implies, not_false_eq_true, not_true_eq_false, and_true, e10 a ha, mm_sh]
        refine rq_136 (c := 48 + a % 10) hM' h3 (by omega) (fun J' h' => ?_) (by omega)
        simp +decide only [mjs_0, mjs_1, mjs_2, mjs_3, mjs_ble, true_and, Bool.false_eq_true, if_false, if_true, Nat.reduceAdd, Nat.reduceSub, Nat.reduceLeDiff, false_implies, true_implies, not_false_eq_true, not_true_eq_false, and_true, d10 a ha]
        refine ih (a / 10) _ J' (by omega) ?_ (by rw [List.length_cons]; omega) h' hq
        rw [Nat.pow_succ] at haf
        omega
  unfold pnm at hQ
  have K12 : ∀ w2 w3 : Option Value, mj_rn X (mj_hd []) (mj_call X mj_P (mj_bi X) (d + 2)) mb_138 12 [some (.ref 36), some (.int x), w2, w3] [.long (lN (nab x))] (sh59, J, Lg, Rf, nc, ns) Q := by
    intro w2 w3
    refine mj_blk rfl ?_
    simp +decide only [mjs_0, mjs_1, mjs_2, mjs_3, mjs_ble, true_and, Bool.false_eq_true, if_false, if_true, Nat.reduceAdd, Nat.reduceSub, Nat.reduceLeDiff, false_implies, true_implies, not_false_eq_true, not_true_eq_false, and_true, e10 (nab x) ha, mm_sh]
    refine rq_136 (c := 48 + nab x % 10) hM' h (by omega) (fun J' h' => ?_) (by omega)
    simp +decide only [mjs_0, mjs_1, mjs_2, mjs_3, mjs_ble, true_and, Bool.false_eq_true, if_false, if_true, Nat.reduceAdd, Nat.reduceSub, Nat.reduceLeDiff, false_implies, true_implies, not_false_eq_true, not_true_eq_false, and_true, d10 (nab x) ha]
    exact L33 9 (nab x / 10) _ J' (by omega) (by omega) (by rw [List.length_cons]; omega) h' hQ
  refine mj_enter (z := (4, [], mb_138)) (by decide) rfl rfl ?_
  refine mj_blk rfl ?_
  simp +decide only [mjs_0, mjs_1, mjs_2, mjs_3, mjs_ble, true_and, Bool.false_eq_true, if_false, if_true, Nat.reduceAdd, Nat.reduceSub, Nat.reduceLeDiff, false_implies, true_implies, not_false_eq_true, not_true_eq_false, and_true]
  refine ⟨fun q => mj_blk rfl ?_, fun q => mj_blk rfl ?_⟩
  · have e : x.toInt64 = lN (nab x) := by
      have := nab_p (Int32.not_lt.mpr q)
      rw [this, nI_l ha, ← this]
    simp +decide only [mjs_0, mjs_1, mjs_2, mjs_3, mjs_ble, true_and, Bool.false_eq_true, if_false, if_true, Nat.reduceAdd, Nat.reduceSub, Nat.reduceLeDiff, false_implies, true_implies, not_false_eq_true, not_true_eq_false, and_true, e]
    exact K12 _ _
  · have e := nab_l (Int32.not_le.mp q) hx
    simp +decide only [mjs_0, mjs_1, mjs_2, mjs_3, mjs_ble, true_and, Bool.false_eq_true, if_false, if_true, Nat.reduceAdd, Nat.reduceSub, Nat.reduceLeDiff, false_implies, true_implies, not_false_eq_true, not_true_eq_false, and_true, e]
    exact K12 _ _
/-- the class's letters: 1, 5 and 10 of the place stand at o, o + 1, o + 2 -/
theorem cq_33 (hR : mj_Rt mp_R Rf) (hX : X.2.1[0]? = some mj_t1) (h : RC fb vb (K, P, E, N, S, M, C, O, L) I) {q o a b c : Nat} (hq : q < 10) (ho : o + 2 < 7) (ha : mj_t1.getD o 0 = nI a ∧ a < 256 ∧ a ≠ 32) (hb : mj_t1.getD (o + 1) 0 = nI b ∧ b < 256 ∧ b ≠ 32) (hc : mj_t1.getD (o + 2) 0 = nI c ∧ c < 256 ∧ c ≠ 32) (hl : P.length + 5 < 10100) (hQ : ∀ I', RC fb vb (K, rdg q a b c P, E, N, S, M, C, O, L) I' → Q (.inl none) (sh59, I', Lg, Rf, nc, ns)) : mj_call X mj_P (mj_bi X) (d + 2) 33 [.ref 28, .int (nI q), .int (nI o)] (sh59, I, Lg, Rf, nc, ns) Q := by
  have hr := mc_rf hR
  have ch : ∀ (z j : Nat), j < 256 ∧ j ≠ 32 → (3072 : Int32) + nI j = nI (pch j) := fun z j hj => by
    unfold pch
    rw [if_neg hj.2]
    exact nI_add 3072 j
  have at' : ∀ (j y : Nat) (K' : mj_Q), j < 7 → mj_t1.getD j 0 = nI y → K' (.inl (some (.int (nI y)))) (sh59, I, Lg, Rf, nc, ns) → ∀ I1, K' (.inl (some (.int (nI y)))) (sh59, I1, Lg, Rf, nc, ns) → mj_call X mj_P (mj_bi X) (d + 1) 905 [.ref 900001, .int (nI j)] (sh59, I1, Lg, Rf, nc, ns) K' := by
    intro j y K' hj hy _ I1 hk
    refine c_905 (tx := mj_t1) (by decide) hX (nI_in (by show j < 7; exact hj) (by show 7 < 2 ^ 31; decide)) ?_
    rw [nI_clamp (by omega), hy]
    exact hk
  have e5 : nI q - nI q / 5 * 5 = nI (q % 5) := pk_rem (by omega) (by decide) (by decide)
  have c905 : ∀ (j y : Nat) (K' : mj_Q) (I1 : Nat → Nat → Int32), j < 7 → mj_t1.getD j 0 = nI y → K' (.inl (some (.int (nI y)))) (sh59, I1, Lg, Rf, nc, ns) → mj_call X mj_P (mj_bi X) (d + 1) 905 [.ref 900001, .int (nI j)] (sh59, I1, Lg, Rf, nc, ns) K' := by
    intro j y K' I1 hj hy hk
    refine c_905 (tx := mj_t1) (by decide) hX (nI_in (by show j < 7; exact hj) (by show 7 < 2 ^ 31; decide)) ?_
    rw [nI_clamp (by omega), hy]
    exact hk
  unfold rdg at hQ
  refine mj_enter (z := (5, [], mb_33)) (by decide) rfl rfl ?_
  refine mj_blk rfl ?_
  simp +decide only [mjs_0, mjs_1, mjs_2, mjs_3, mjs_ble, true_and, Bool.false_eq_true, if_false, if_true, Nat.reduceAdd, Nat.reduceSub, Nat.reduceLeDiff, false_implies, true_implies, not_false_eq_true, not_true_eq_false, and_true, e5]
  refine ⟨fun q4 => mj_blk rfl ?_, fun q4 => mj_blk rfl ?_⟩
  · have n4 : q % 5 ≠ 4 := fun e => q4 (by rw [e]; rfl)
    rw [if_neg n4] at hQ
    have K90 : ∀ (P1 : List Nat) (I1 : Nat → Nat → Int32) (w3 w4 : Option Value), P1.length + 1 < 10100 → RC fb vb (K, P1, E, N, S, M, C, O, L) I1 → (∀ I', RC fb vb (K, (if 5 ≤ q then pch b :: P1 else P1), E, N, S, M, C, O, L) I' → Q (.inl none) (sh59, I', Lg, Rf, nc, ns)) → mj_rn X (mj_hd []) (mj_call X mj_P (mj_bi X) (d + 1)) mb_33 90 [some (.ref 28), some (.int (nI q)), some (.int (nI o)), w3, w4] [] (sh59, I1, Lg, Rf, nc, ns) Q := by
      intro P1 I1 w3 w4 h1 h2 hq'
      refine mj_blk rfl ?_
      simp +decide only [mjs_0, mjs_1, mjs_2, mjs_3, mjs_ble, true_and, Bool.false_eq_true, if_false, if_true, Nat.reduceAdd, Nat.reduceSub, Nat.reduceLeDiff, false_implies, true_implies, not_false_eq_true, not_true_eq_false, and_true]
      refine ⟨fun q5 => mj_blk rfl ?_, fun q5 => mj_blk rfl ?_⟩
      · have : ¬ 5 ≤ q := by
          have := (nI_ltI (a := q) (b := 5) (by omega) (by decide)).mp q5
          omega
        rw [if_neg this] at hq'
        simp +decide only [mjs_0, mjs_1, mjs_2, mjs_3, mjs_ble, true_and, Bool.false_eq_true, if_false, if_true, Nat.reduceAdd, Nat.reduceSub, Nat.reduceLeDiff, false_implies, true_implies, not_false_eq_true, not_true_eq_false, and_true]
        exact hq' I1 h2
      · have : 5 ≤ q := by
          by_cases hh : q < 5
          · exact absurd (show nI q < nI 5 from nI_lt hh (by decide)) q5
          · omega
        rw [if_pos this] at hq'
        simp +decide only [mjs_0, mjs_1, mjs_2, mjs_3, mjs_ble, true_and, Bool.false_eq_true, if_false, if_true, Nat.reduceAdd, Nat.reduceSub, Nat.reduceLeDiff, false_implies, true_implies, not_false_eq_true, not_true_eq_false, and_true, mc_sh, hr, mjs_up_at, mjs_up_c, mjs_up_f, nI_1]
        refine c905 (o + 1) b _ I1 (by omega) hb.1 ?_
        simp +decide only [mjs_0, mjs_1, mjs_2, mjs_3, mjs_ble, true_and, Bool.false_eq_true, if_false, if_true, Nat.reduceAdd, Nat.reduceSub, Nat.reduceLeDiff, false_implies, true_implies, not_false_eq_true, not_true_eq_false, and_true, mc_sh, hr, mjs_up_at, mjs_up_c, mjs_up_f, ch 0 b hb.2]
        refine cq_84 hR h2 h1 (fun I' h' _ => ?_)
        simp +decide only [mjs_0, mjs_1, mjs_2, mjs_3, mjs_ble, true_and, Bool.false_eq_true, if_false, if_true, Nat.reduceAdd, Nat.reduceSub, Nat.reduceLeDiff, false_implies, true_implies, not_false_eq_true, not_true_eq_false, and_true]
        refine mj_blk rfl ?_
        simp +decide only [mjs_0, mjs_1, mjs_2, mjs_3, mjs_ble, true_and, Bool.false_eq_true, if_false, if_true, Nat.reduceAdd, Nat.reduceSub, Nat.reduceLeDiff, false_implies, true_implies, not_false_eq_true, not_true_eq_false, and_true]
        exact hq' I' h'
    have L61 : ∀ (n i : Nat) (P1 : List Nat) (I1 : Nat → Nat → Int32), i + n = q % 5 → P1.length + n + 1 < 10100 → RC fb vb (K, P1, E, N, S, M, C, O, L) I1 → (∀ I', RC fb vb (K, (if 5 ≤ q then pch b :: rpl a n P1 else rpl a n P1), E, N, S, M, C, O, L) I' → Q (.inl none) (sh59, I', Lg, Rf, nc, ns)) → mj_rn X (mj_hd []) (mj_call X mj_P (mj_bi X) (d + 1)) mb_33 61 [some (.ref 28), some (.int (nI q)), some (.int (nI o)), some (.int (nI (q % 5))), some (.int (nI i))] [] (sh59, I1, Lg, Rf, nc, ns) Q := by
      intro n
      induction n with
      | zero =>
        intro i P1 I1 hi h1 h2 hq'
        obtain rfl : i = q % 5 := by omega
        refine mj_blk rfl ?_
        simp +decide only [mjs_0, mjs_1, mjs_2, mjs_3, mjs_ble, true_and, Bool.false_eq_true, if_false, if_true, Nat.reduceAdd, Nat.reduceSub, Nat.reduceLeDiff, false_implies, true_implies, not_false_eq_true, not_true_eq_false, and_true]
        refine ⟨fun _ => K90 P1 I1 _ _ (by omega) h2 hq', fun q' => absurd (nI_le (Nat.le_refl _) (by omega)) q'⟩
      | succ n ih =>
        intro i P1 I1 hi h1 h2 hq'
        refine mj_blk rfl ?_
        simp +decide only [mjs_0, mjs_1, mjs_2, mjs_3, mjs_ble, true_and, Bool.false_eq_true, if_false, if_true, Nat.reduceAdd, Nat.reduceSub, Nat.reduceLeDiff, false_implies, true_implies, not_false_eq_true, not_true_eq_false, and_true]
        refine ⟨fun q' => absurd q' (nI_ge (by omega) (by omega)), fun _ => mj_blk rfl ?_⟩
        simp +decide only [mjs_0, mjs_1, mjs_2, mjs_3, mjs_ble, true_and, Bool.false_eq_true, if_false, if_true, Nat.reduceAdd, Nat.reduceSub, Nat.reduceLeDiff, false_implies, true_implies, not_false_eq_true, not_true_eq_false, and_true, mc_sh, hr, mjs_up_at, mjs_up_c, mjs_up_f]
        refine c905 o a _ I1 (by omega) ha.1 ?_
        simp +decide only [mjs_0, mjs_1, mjs_2, mjs_3, mjs_ble, true_and, Bool.false_eq_true, if_false, if_true, Nat.reduceAdd, Nat.reduceSub, Nat.reduceLeDiff, false_implies, true_implies, not_false_eq_true, not_true_eq_false, and_true, mc_sh, hr, mjs_up_at, mjs_up_c, mjs_up_f, ch 0 a ha.2]
        refine cq_84 hR h2 (by omega) (fun I' h' _ => ?_)
        simp +decide only [mjs_0, mjs_1, mjs_2, mjs_3, mjs_ble, true_and, Bool.false_eq_true, if_false, if_true, Nat.reduceAdd, Nat.reduceSub, Nat.reduceLeDiff, false_implies, true_implies, not_false_eq_true, not_true_eq_false, and_true, mc_sh, hr, mjs_up_at, mjs_up_c, mjs_up_f, nI_1]
        exact ih (i + 1) _ I' (by omega) (by rw [List.length_cons]; omega) h' hq'
    simp +decide only [mjs_0, mjs_1, mjs_2, mjs_3, mjs_ble, true_and, Bool.false_eq_true, if_false, if_true, Nat.reduceAdd, Nat.reduceSub, Nat.reduceLeDiff, false_implies, true_implies, not_false_eq_true, not_true_eq_false, and_true]
    exact L61 (q % 5) 0 P I (by omega) (by omega) h hQ
  · have e4 : q % 5 = 4 := (nI_eq (by omega) (by decide)).mp (show nI (q % 5) = nI 4 from Decidable.not_not.mp q4)
    rw [if_pos e4] at hQ
    have K33 : ∀ (j y : Nat) (w1 w3 w4 : Option Value), j < 7 → mj_t1.getD j 0 = nI y → y < 256 ∧ y ≠ 32 → y = (if q = 9 then c else b) → mj_rn X (mj_hd []) (mj_call X mj_P (mj_bi X) (d + 1)) mb_33 33 [some (.ref 28), w1, some (.int (nI o)), w3, w4] [.int (nI j), .ref 900001, .int 3072, .ref 17] (sh59, I, Lg, Rf, nc, ns) Q := by
      intro j y w1 w3 w4 hj hy hy2 hyq
      rw [← hyq] at hQ
      refine mj_blk rfl ?_
      simp +decide only [mjs_0, mjs_1, mjs_2, mjs_3, mjs_ble, true_and, Bool.false_eq_true, if_false, if_true, Nat.reduceAdd, Nat.reduceSub, Nat.reduceLeDiff, false_implies, true_implies, not_false_eq_true, not_true_eq_false, and_true, mc_sh, hr, mjs_up_at, mjs_up_c, mjs_up_f]
      refine c905 j y _ I hj hy ?_
      simp +decide only [mjs_0, mjs_1, mjs_2, mjs_3, mjs_ble, true_and, Bool.false_eq_true, if_false, if_true, Nat.reduceAdd, Nat.reduceSub, Nat.reduceLeDiff, false_implies, true_implies, not_false_eq_true, not_true_eq_false, and_true, mc_sh, hr, mjs_up_at, mjs_up_c, mjs_up_f, ch 0 y hy2]
      refine cq_84 hR h (by omega) (fun I1 h1 _ => ?_)
      simp +decide only [mjs_0, mjs_1, mjs_2, mjs_3, mjs_ble, true_and, Bool.false_eq_true, if_false, if_true, Nat.reduceAdd, Nat.reduceSub, Nat.reduceLeDiff, false_implies, true_implies, not_false_eq_true, not_true_eq_false, and_true, mc_sh, hr, mjs_up_at, mjs_up_c, mjs_up_f]
      refine c905 o a _ I1 (by omega) ha.1 ?_
      simp +decide only [mjs_0, mjs_1, mjs_2, mjs_3, mjs_ble, true_and, Bool.false_eq_true, if_false, if_true, Nat.reduceAdd, Nat.reduceSub, Nat.reduceLeDiff, false_implies, true_implies, not_false_eq_true, not_true_eq_false, and_true, mc_sh, hr, mjs_up_at, mjs_up_c, mjs_up_f, ch 0 a ha.2]
      refine cq_84 hR h1 (by rw [List.length_cons]; omega) (fun I2 h2 _ => ?_)
      simp +decide only [mjs_0, mjs_1, mjs_2, mjs_3, mjs_ble, true_and, Bool.false_eq_true, if_false, if_true, Nat.reduceAdd, Nat.reduceSub, Nat.reduceLeDiff, false_implies, true_implies, not_false_eq_true, not_true_eq_false, and_true, mc_sh, hr, mjs_up_at, mjs_up_c, mjs_up_f]
      exact hQ I2 h2
    simp +decide only [mjs_0, mjs_1, mjs_2, mjs_3, mjs_ble, true_and, Bool.false_eq_true, if_false, if_true, Nat.reduceAdd, Nat.reduceSub, Nat.reduceLeDiff, false_implies, true_implies, not_false_eq_true, not_true_eq_false, and_true, mc_sh, hr, mjs_up_at, mjs_up_c, mjs_up_f]
    refine ⟨fun q9 => mj_blk rfl ?_, fun q9 => mj_blk rfl ?_⟩
    · have n9 : q ≠ 9 := fun e => q9 (by rw [e]; rfl)
      simp +decide only [mjs_0, mjs_1, mjs_2, mjs_3, mjs_ble, true_and, Bool.false_eq_true, if_false, if_true, Nat.reduceAdd, Nat.reduceSub, Nat.reduceLeDiff, false_implies, true_implies, not_false_eq_true, not_true_eq_false, and_true, nI_1]
      exact K33 (o + 1) b _ _ _ (by omega) hb.1 hb.2 (by rw [if_neg n9])
    · have e9 : q = 9 := (nI_eq (by omega) (by decide)).mp (show nI q = nI 9 from Decidable.not_not.mp q9)
      have e2 : nI o + 2 = nI (o + 2) := nI_add o 2
      simp +decide only [mjs_0, mjs_1, mjs_2, mjs_3, mjs_ble, true_and, Bool.false_eq_true, if_false, if_true, Nat.reduceAdd, Nat.reduceSub, Nat.reduceLeDiff, false_implies, true_implies, not_false_eq_true, not_true_eq_false, and_true, e2]
      exact K33 (o + 2) c _ _ _ (by omega) hc.1 hc.2 (by rw [if_pos e9])
theorem cq_32 (hR : mj_Rt mp_R Rf) (hX : X.2.1[0]? = some mj_t1) (hv : gv (K, P, E, N, S, M, C, O, L)) (h : RC fb vb (K, P, E, N, S, M, C, O, L) I) {x : Int32} (hl : P.length + 25 < 10100) (hr' : nc + 1 ≤ X.2.2.1 ∧ ns + 6 ≤ X.2.2.2) (hQ1 : ∀ n, n ≤ 9999 → (x = nI n ∨ (x < 0 ∧ n = 0)) → ∀ I', RC fb vb (K, grm n P, E, N, S, M, C, O, L) I' → Q (.inl none) (sh59, I', Lg, Rf, nc, ns)) (hQ2 : ¬ x ≤ 9999 → ∀ I', RCf fb vb (K, P, E, N, S, M, C, O, L) I' → Q (.inr 500) (sh59, I', Lg, Rf, nc + 1, ns + 6)) : mj_call X mj_P (mj_bi X) (d + 3) 32 [.ref 28, .int x] (sh59, I, Lg, Rf, nc, ns) Q := by
  have hr := mc_rf hR
  have e10 : ∀ a : Nat, a < 2 ^ 31 → nI a - nI a / 10 * 10 = nI (a % 10) := fun a h => pk_rem h (by decide) (by decide)
  have d10 : ∀ a : Nat, a < 2 ^ 31 → nI a / 10 = nI (a / 10) := fun a h => pk_div h (by decide) (by decide)
  have L54 : ∀ (m k i : Nat) (P1 : List Nat) (I1 : Nat → Nat → Int32), k < 100 → i + m = k → P1.length + m < 10099 → RC fb vb (K, P1, E, N, S, M, C, O, L) I1 → (∀ I', RC fb vb (K, rpl 109 m P1, E, N, S, M, C, O, L) I' → Q (.inl none) (sh59, I', Lg, Rf, nc, ns)) → ∀ w1 : Option Value, mj_rn X (mj_hd []) (mj_call X mj_P (mj_bi X) (d + 2)) mb_32 54 [some (.ref 28), w1, some (.int (nI k)), some (.int (nI i))] [] (sh59, I1, Lg, Rf, nc, ns) Q := by
    intro m
    induction m with
    | zero =>
      intro k i P1 I1 hk hi h1 h2 hq w1
      obtain rfl : i = k := by omega
      refine mj_blk rfl ?_
      simp +decide only [mjs_0, mjs_1, mjs_2, mjs_3, mjs_ble, true_and, Bool.false_eq_true, if_false, if_true, Nat.reduceAdd, Nat.reduceSub, Nat.reduceLeDiff, false_implies, true_implies, not_false_eq_true, not_true_eq_false, and_true]
      refine ⟨fun _ => mj_blk rfl ?_, fun q' => absurd (nI_le (Nat.le_refl _) (by omega)) q'⟩
      simp +decide only [mjs_0, mjs_1, mjs_2, mjs_3, mjs_ble, true_and, Bool.false_eq_true, if_false, if_true, Nat.reduceAdd, Nat.reduceSub, Nat.reduceLeDiff, false_implies, true_implies, not_false_eq_true, not_true_eq_false, and_true]
      exact hq I1 h2
    | succ m ih =>
      intro k i P1 I1 hk hi h1 h2 hq w1
      refine mj_blk rfl ?_
      simp +decide only [mjs_0, mjs_1, mjs_2, mjs_3, mjs_ble, true_and, Bool.false_eq_true, if_false, if_true, Nat.reduceAdd, Nat.reduceSub, Nat.reduceLeDiff, false_implies, true_implies, not_false_eq_true, not_true_eq_false, and_true]
      refine ⟨fun q' => absurd q' (nI_ge (by omega) (by omega)), fun _ => mj_blk rfl ?_⟩
      simp +decide only [mjs_0, mjs_1, mjs_2, mjs_3, mjs_ble, true_and, Bool.false_eq_true, if_false, if_true, Nat.reduceAdd, Nat.reduceSub, Nat.reduceLeDiff, false_implies, true_implies, not_false_eq_true, not_true_eq_false, and_true, mc_sh, hr, mjs_up_at, mjs_up_c, mjs_up_f]
      refine cq_84 (t := 3181) hR h2 (by omega) (fun I' h' _ => ?_)
      simp +decide only [mjs_0, mjs_1, mjs_2, mjs_3, mjs_ble, true_and, Bool.false_eq_true, if_false, if_true, Nat.reduceAdd, Nat.reduceSub, Nat.reduceLeDiff, false_implies, true_implies, not_false_eq_true, not_true_eq_false, and_true, mc_sh, hr, mjs_up_at, mjs_up_c, mjs_up_f, nI_1]
      exact ih k (i + 1) _ I' hk (by omega) (by rw [List.length_cons]; omega) h' hq _
  have K17 : ∀ n, n ≤ 9999 → (x = nI n ∨ (x < 0 ∧ n = 0)) → mj_rn X (mj_hd []) (mj_call X mj_P (mj_bi X) (d + 2)) mb_32 17 [some (.ref 28), some (.int x), none, none] [] (sh59, I, Lg, Rf, nc, ns) Q := by
    intro n hn hx
    have hq := hQ1 n hn hx
    have em : (if x < 0 then 0 else x) = nI n := by
      rcases hx with rfl | ⟨h1, rfl⟩
      · rw [if_neg (nI_pos (by omega))]
      · rw [if_pos h1]
        rfl
    unfold grm at hq
    have g1 := rdg_len (q := n % 10) (a := 105) (b := 118) (c := 120) (P := P)
    have g2 := rdg_len (q := n / 10 % 10) (a := 120) (b := 108) (c := 99) (P := rdg (n % 10) 105 118 120 P)
    have g3 := rdg_len (q := n / 100 % 10) (a := 99) (b := 100) (c := 109) (P := rdg (n / 10 % 10) 120 108 99 (rdg (n % 10) 105 118 120 P))
    refine mj_blk rfl ?_
    simp +decide only [mjs_0, mjs_1, mjs_2, mjs_3, mjs_ble, true_and, Bool.false_eq_true, if_false, if_true, Nat.reduceAdd, Nat.reduceSub, Nat.reduceLeDiff, false_implies, true_implies, not_false_eq_true, not_true_eq_false, and_true]
    refine c_901 ?_
    rw [em]
    simp +decide only [mjs_0, mjs_1, mjs_2, mjs_3, mjs_ble, true_and, Bool.false_eq_true, if_false, if_true, Nat.reduceAdd, Nat.reduceSub, Nat.reduceLeDiff, false_implies, true_implies, not_false_eq_true, not_true_eq_false, and_true]
    refine mj_blk rfl ?_
    simp +decide only [mjs_0, mjs_1, mjs_2, mjs_3, mjs_ble, true_and, Bool.false_eq_true, if_false, if_true, Nat.reduceAdd, Nat.reduceSub, Nat.reduceLeDiff, false_implies, true_implies, not_false_eq_true, not_true_eq_false, and_true]
    refine mj_blk rfl ?_
    simp +decide only [mjs_0, mjs_1, mjs_2, mjs_3, mjs_ble, true_and, Bool.false_eq_true, if_false, if_true, Nat.reduceAdd, Nat.reduceSub, Nat.reduceLeDiff, false_implies, true_implies, not_false_eq_true, not_true_eq_false, and_true, e10 n (by omega), mc_sh]
    refine cq_33 (o := 0) (a := 105) (b := 118) (c := 120) hR hX h (by omega) (by decide) (by decide) (by decide) (by decide) (by omega) (fun I1 h1 => ?_)
    simp +decide only [mjs_0, mjs_1, mjs_2, mjs_3, mjs_ble, true_and, Bool.false_eq_true, if_false, if_true, Nat.reduceAdd, Nat.reduceSub, Nat.reduceLeDiff, false_implies, true_implies, not_false_eq_true, not_true_eq_false, and_true, d10 n (by omega)]
    refine mj_blk rfl ?_
    simp +decide only [mjs_0, mjs_1, mjs_2, mjs_3, mjs_ble, true_and, Bool.false_eq_true, if_false, if_true, Nat.reduceAdd, Nat.reduceSub, Nat.reduceLeDiff, false_implies, true_implies, not_false_eq_true, not_true_eq_false, and_true]
    refine mj_blk rfl ?_
    simp +decide only [mjs_0, mjs_1, mjs_2, mjs_3, mjs_ble, true_and, Bool.false_eq_true, if_false, if_true, Nat.reduceAdd, Nat.reduceSub, Nat.reduceLeDiff, false_implies, true_implies, not_false_eq_true, not_true_eq_false, and_true, e10 (n / 10) (by omega), mc_sh]
    refine cq_33 (o := 2) (a := 120) (b := 108) (c := 99) hR hX h1 (by omega) (by decide) (by decide) (by decide) (by decide) (by omega) (fun I2 h2 => ?_)
    have e3 : n / 10 / 10 = n / 100 := by omega
    simp +decide only [mjs_0, mjs_1, mjs_2, mjs_3, mjs_ble, true_and, Bool.false_eq_true, if_false, if_true, Nat.reduceAdd, Nat.reduceSub, Nat.reduceLeDiff, false_implies, true_implies, not_false_eq_true, not_true_eq_false, and_true, d10 (n / 10) (by omega), e3]
    refine mj_blk rfl ?_
    simp +decide only [mjs_0, mjs_1, mjs_2, mjs_3, mjs_ble, true_and, Bool.false_eq_true, if_false, if_true, Nat.reduceAdd, Nat.reduceSub, Nat.reduceLeDiff, false_implies, true_implies, not_false_eq_true, not_true_eq_false, and_true]
    refine mj_blk rfl ?_
    simp +decide only [mjs_0, mjs_1, mjs_2, mjs_3, mjs_ble, true_and, Bool.false_eq_true, if_false, if_true, Nat.reduceAdd, Nat.reduceSub, Nat.reduceLeDiff, false_implies, true_implies, not_false_eq_true, not_true_eq_false, and_true, e10 (n / 100) (by omega), mc_sh]
    refine cq_33 (o := 4) (a := 99) (b := 100) (c := 109) hR hX h2 (by omega) (by decide) (by decide) (by decide) (by decide) (by omega) (fun I3 h3 => ?_)
    have e4 : n / 100 / 10 = n / 1000 := by omega
    simp +decide only [mjs_0, mjs_1, mjs_2, mjs_3, mjs_ble, true_and, Bool.false_eq_true, if_false, if_true, Nat.reduceAdd, Nat.reduceSub, Nat.reduceLeDiff, false_implies, true_implies, not_false_eq_true, not_true_eq_false, and_true, d10 (n / 100) (by omega), e4]
    refine mj_blk rfl ?_
    simp +decide only [mjs_0, mjs_1, mjs_2, mjs_3, mjs_ble, true_and, Bool.false_eq_true, if_false, if_true, Nat.reduceAdd, Nat.reduceSub, Nat.reduceLeDiff, false_implies, true_implies, not_false_eq_true, not_true_eq_false, and_true]
    refine mj_blk rfl ?_
    simp +decide only [mjs_0, mjs_1, mjs_2, mjs_3, mjs_ble, true_and, Bool.false_eq_true, if_false, if_true, Nat.reduceAdd, Nat.reduceSub, Nat.reduceLeDiff, false_implies, true_implies, not_false_eq_true, not_true_eq_false, and_true]
    exact L54 (n / 1000) (n / 1000) 0 _ I3 (by omega) (by omega) (by omega) h3 hq _
  refine mj_enter (z := (4, [], mb_32)) (by decide) rfl rfl ?_
  refine mj_blk rfl ?_
  simp +decide only [mjs_0, mjs_1, mjs_2, mjs_3, mjs_ble, true_and, Bool.false_eq_true, if_false, if_true, Nat.reduceAdd, Nat.reduceSub, Nat.reduceLeDiff, false_implies, true_implies, not_false_eq_true, not_true_eq_false, and_true]
  refine ⟨fun q => ?_, fun q => mj_blk rfl ?_⟩
  · by_cases hn : x < 0
    · exact K17 0 (by decide) (Or.inr ⟨hn, rfl⟩)
    · obtain ⟨n, h1, h2⟩ := nI_of2 (M := 9999) (n := 9999) rfl hn q
      exact K17 n h1 (Or.inl h2)
  · simp +decide only [mjs_0, mjs_1, mjs_2, mjs_3, mjs_ble, true_and, Bool.false_eq_true, if_false, if_true, Nat.reduceAdd, Nat.reduceSub, Nat.reduceLeDiff, false_implies, true_implies, not_false_eq_true, not_true_eq_false, and_true, mc_sh, hr, mjs_up_at, mjs_up_c, mjs_up_f]
    refine c_80 s59_1 hr' ?_
    simp +decide only [mjs_0, mjs_1, mjs_2, mjs_3, mjs_ble, true_and, Bool.false_eq_true, if_false, if_true, Nat.reduceAdd, Nat.reduceSub, Nat.reduceLeDiff, false_implies, true_implies, not_false_eq_true, not_true_eq_false, and_true]
    exact hQ2 q _ (rc_f hv h)
theorem rq_139 (hM' : mj_Rt mm_R Rf) (h : RR H (K, P, E, N, S, M, C, O, L) J) {q a b c : Nat} (hq : q < 10) (ha : a < 256) (hb : b < 256) (hc : c < 256) (hl : P.length + 5 < 10600) (hQ : ∀ J', RR H (K, rdg q a b c P, E, N, S, M, C, O, L) J' → Q (.inl none) (sh59, J', Lg, Rf, nc, ns)) : mj_call X mj_P (mj_bi X) (d + 3) 139 [.ref 36, .int (nI q), .int (nI a), .int (nI b), .int (nI c)] (sh59, J, Lg, Rf, nc, ns) Q := by
  have e5 : nI q - nI q / 5 * 5 = nI (q % 5) := pk_rem (by omega) (by decide) (by decide)
  unfold rdg at hQ
  have K23 : ∀ (y : Nat) (w1 w3 w4 w5 : Option Value), q % 5 = 4 → y < 256 → y = (if q = 9 then c else b) → mj_rn X (mj_hd []) (mj_call X mj_P (mj_bi X) (d + 2)) mb_139 23 [some (.ref 36), w1, some (.int (nI a)), w3, w4, w5] [.int (nI y), .ref 36] (sh59, J, Lg, Rf, nc, ns) Q := by
    intro y w1 w3 w4 w5 e4 hy hyq
    rw [if_pos e4, ← hyq] at hQ
    refine mj_blk rfl ?_
    simp +decide only [mjs_0, mjs_1, mjs_2, mjs_3, mjs_ble, true_and, Bool.false_eq_true, if_false, if_true, Nat.reduceAdd, Nat.reduceSub, Nat.reduceLeDiff, false_implies, true_implies, not_false_eq_true, not_true_eq_false, and_true, mm_sh]
    refine rq_136 hM' h (by omega) (fun J1 h1 => ?_) hy
    simp +decide only [mjs_0, mjs_1, mjs_2, mjs_3, mjs_ble, true_and, Bool.false_eq_true, if_false, if_true, Nat.reduceAdd, Nat.reduceSub, Nat.reduceLeDiff, false_implies, true_implies, not_false_eq_true, not_true_eq_false, and_true, mm_sh]
    refine rq_136 hM' h1 (by rw [List.length_cons]; omega) (fun J2 h2 => ?_) ha
    simp +decide only [mjs_0, mjs_1, mjs_2, mjs_3, mjs_ble, true_and, Bool.false_eq_true, if_false, if_true, Nat.reduceAdd, Nat.reduceSub, Nat.reduceLeDiff, false_implies, true_implies, not_false_eq_true, not_true_eq_false, and_true]
    exact hQ J2 h2
  have K11 : q = 4 ∨ q = 9 → mj_rn X (mj_hd []) (mj_call X mj_P (mj_bi X) (d + 2)) mb_139 11 [some (.ref 36), some (.int (nI q)), some (.int (nI a)), some (.int (nI b)), some (.int (nI c)), none] [] (sh59, J, Lg, Rf, nc, ns) Q := by
    intro h49
    rcases h49 with rfl | rfl
    · refine mj_blk rfl ?_
      simp +decide only [mjs_0, mjs_1, mjs_2, mjs_3, mjs_ble, true_and, Bool.false_eq_true, if_false, if_true, Nat.reduceAdd, Nat.reduceSub, Nat.reduceLeDiff, false_implies, true_implies, not_false_eq_true, not_true_eq_false, and_true]
      refine mj_blk rfl ?_
      simp +decide only [mjs_0, mjs_1, mjs_2, mjs_3, mjs_ble, true_and, Bool.false_eq_true, if_false, if_true, Nat.reduceAdd, Nat.reduceSub, Nat.reduceLeDiff, false_implies, true_implies, not_false_eq_true, not_true_eq_false, and_true]
      exact K23 b _ _ _ _ rfl hb rfl
    · refine mj_blk rfl ?_
      simp +decide only [mjs_0, mjs_1, mjs_2, mjs_3, mjs_ble, true_and, Bool.false_eq_true, if_false, if_true, Nat.reduceAdd, Nat.reduceSub, Nat.reduceLeDiff, false_implies, true_implies, not_false_eq_true, not_true_eq_false, and_true]
      refine mj_blk rfl ?_
      simp +decide only [mjs_0, mjs_1, mjs_2, mjs_3, mjs_ble, true_and, Bool.false_eq_true, if_false, if_true, Nat.reduceAdd, Nat.reduceSub, Nat.reduceLeDiff, false_implies, true_implies, not_false_eq_true, not_true_eq_false, and_true]
      exact K23 c _ _ _ _ rfl hc rfl
  have K32 : ¬ (q = 4 ∨ q = 9) → mj_rn X (mj_hd []) (mj_call X mj_P (mj_bi X) (d + 2)) mb_139 32 [some (.ref 36), some (.int (nI q)), some (.int (nI a)), some (.int (nI b)), some (.int (nI c)), none] [] (sh59, J, Lg, Rf, nc, ns) Q := by
    intro h49
    rw [if_neg (by omega)] at hQ
    have K54 : ∀ (P1 : List Nat) (J1 : Nat → Nat → Int32) (w2 w4 w5 : Option Value), P1.length < 10600 → RR H (K, P1, E, N, S, M, C, O, L) J1 → (∀ J', RR H (K, (if 5 ≤ q then pch b :: P1 else P1), E, N, S, M, C, O, L) J' → Q (.inl none) (sh59, J', Lg, Rf, nc, ns)) → mj_rn X (mj_hd []) (mj_call X mj_P (mj_bi X) (d + 2)) mb_139 54 [some (.ref 36), some (.int (nI q)), w2, some (.int (nI b)), w4, w5] [] (sh59, J1, Lg, Rf, nc, ns) Q := by
      intro P1 J1 w2 w4 w5 h1 h2 hq'
      refine mj_blk rfl ?_
      simp +decide only [mjs_0, mjs_1, mjs_2, mjs_3, mjs_ble, true_and, Bool.false_eq_true, if_false, if_true, Nat.reduceAdd, Nat.reduceSub, Nat.reduceLeDiff, false_implies, true_implies, not_false_eq_true, not_true_eq_false, and_true]
      refine ⟨fun q5 => mj_blk rfl ?_, fun q5 => mj_blk rfl ?_⟩
      · have : ¬ 5 ≤ q := by
          have := (nI_leI (a := q) (b := 4) (by omega) (by decide)).mp q5
          omega
        rw [if_neg this] at hq'
        simp +decide only [mjs_0, mjs_1, mjs_2, mjs_3, mjs_ble, true_and, Bool.false_eq_true, if_false, if_true, Nat.reduceAdd, Nat.reduceSub, Nat.reduceLeDiff, false_implies, true_implies, not_false_eq_true, not_true_eq_false, and_true]
        exact hq' J1 h2
      · have : 5 ≤ q := by
          by_cases hh : q ≤ 4
          · exact absurd (show nI q ≤ nI 4 from nI_le hh (by decide)) q5
          · omega
        rw [if_pos this] at hq'
        simp +decide only [mjs_0, mjs_1, mjs_2, mjs_3, mjs_ble, true_and, Bool.false_eq_true, if_false, if_true, Nat.reduceAdd, Nat.reduceSub, Nat.reduceLeDiff, false_implies, true_implies, not_false_eq_true, not_true_eq_false, and_true, mm_sh]
        refine rq_136 hM' h2 h1 (fun J' h' => ?_) hb
        simp +decide only [mjs_0, mjs_1, mjs_2, mjs_3, mjs_ble, true_and, Bool.false_eq_true, if_false, if_true, Nat.reduceAdd, Nat.reduceSub, Nat.reduceLeDiff, false_implies, true_implies, not_false_eq_true, not_true_eq_false, and_true]
        refine mj_blk rfl ?_
        simp +decide only [mjs_0, mjs_1, mjs_2, mjs_3, mjs_ble, true_and, Bool.false_eq_true, if_false, if_true, Nat.reduceAdd, Nat.reduceSub, Nat.reduceLeDiff, false_implies, true_implies, not_false_eq_true, not_true_eq_false, and_true]
        exact hq' J' h'
    have L35 : ∀ (n i : Nat) (P1 : List Nat) (J1 : Nat → Nat → Int32), i + n = q % 5 → P1.length + n < 10600 → RR H (K, P1, E, N, S, M, C, O, L) J1 → (∀ J', RR H (K, (if 5 ≤ q then pch b :: rpl a n P1 else rpl a n P1), E, N, S, M, C, O, L) J' → Q (.inl none) (sh59, J', Lg, Rf, nc, ns)) → ∀ w4 : Option Value, mj_rn X (mj_hd []) (mj_call X mj_P (mj_bi X) (d + 2)) mb_139 35 [some (.ref 36), some (.int (nI q)), some (.int (nI a)), some (.int (nI b)), w4, some (.int (nI i))] [] (sh59, J1, Lg, Rf, nc, ns) Q := by
      intro n
      induction n with
      | zero =>
        intro i P1 J1 hi h1 h2 hq' w4
        obtain rfl : i = q % 5 := by omega
        refine mj_blk rfl ?_
        simp +decide only [mjs_0, mjs_1, mjs_2, mjs_3, mjs_ble, true_and, Bool.false_eq_true, if_false, if_true, Nat.reduceAdd, Nat.reduceSub, Nat.reduceLeDiff, false_implies, true_implies, not_false_eq_true, not_true_eq_false, and_true, e5]
        refine ⟨fun _ => K54 P1 J1 _ _ _ (by omega) h2 hq', fun q' => absurd (nI_le (Nat.le_refl _) (by omega)) q'⟩
      | succ n ih =>
        intro i P1 J1 hi h1 h2 hq' w4
        refine mj_blk rfl ?_
        simp +decide only [mjs_0, mjs_1, mjs_2, mjs_3, mjs_ble, true_and, Bool.false_eq_true, if_false, if_true, Nat.reduceAdd, Nat.reduceSub, Nat.reduceLeDiff, false_implies, true_implies, not_false_eq_true, not_true_eq_false, and_true, e5]
        refine ⟨fun q' => absurd q' (nI_ge (by omega) (by omega)), fun _ => mj_blk rfl ?_⟩
        simp +decide only [mjs_0, mjs_1, mjs_2, mjs_3, mjs_ble, true_and, Bool.false_eq_true, if_false, if_true, Nat.reduceAdd, Nat.reduceSub, Nat.reduceLeDiff, false_implies, true_implies, not_false_eq_true, not_true_eq_false, and_true, mm_sh]
        refine rq_136 hM' h2 (by omega) (fun J' h' => ?_) ha
        simp +decide only [mjs_0, mjs_1, mjs_2, mjs_3, mjs_ble, true_and, Bool.false_eq_true, if_false, if_true, Nat.reduceAdd, Nat.reduceSub, Nat.reduceLeDiff, false_implies, true_implies, not_false_eq_true, not_true_eq_false, and_true, nI_1]
        exact ih (i + 1) _ J' (by omega) (by rw [List.length_cons]; omega) h' hq' _
    refine mj_blk rfl ?_
    simp +decide only [mjs_0, mjs_1, mjs_2, mjs_3, mjs_ble, true_and, Bool.false_eq_true, if_false, if_true, Nat.reduceAdd, Nat.reduceSub, Nat.reduceLeDiff, false_implies, true_implies, not_false_eq_true, not_true_eq_false, and_true]
    exact L35 (q % 5) 0 P J (by omega) (by omega) h hQ _
  refine mj_enter (z := (6, [], mb_139)) (by decide) rfl rfl ?_
  refine mj_blk rfl ?_
  simp +decide only [mjs_0, mjs_1, mjs_2, mjs_3, mjs_ble, true_and, Bool.false_eq_true, if_false, if_true, Nat.reduceAdd, Nat.reduceSub, Nat.reduceLeDiff, false_implies, true_implies, not_false_eq_true, not_true_eq_false, and_true]
  refine ⟨fun q4 => K11 (Or.inl ((nI_eq (by omega) (by decide)).mp (show nI q = nI 4 from q4))), fun q4 => mj_blk rfl ?_⟩
  have n4 : q ≠ 4 := fun e => q4 (by rw [e]; rfl)
  simp +decide only [mjs_0, mjs_1, mjs_2, mjs_3, mjs_ble, true_and, Bool.false_eq_true, if_false, if_true, Nat.reduceAdd, Nat.reduceSub, Nat.reduceLeDiff, false_implies, true_implies, not_false_eq_true, not_true_eq_false, and_true]
  refine ⟨fun q9 => K32 (fun hh => ?_), fun q9 => K11 (Or.inr ((nI_eq (by omega) (by decide)).mp (show nI q = nI 9 from Decidable.not_not.mp q9)))⟩
  rcases hh with hh | hh
  · exact n4 hh
  · exact q9 (by rw [hh]; rfl)
theorem rq_140 (hM' : mj_Rt mm_R Rf) (h : RR H (K, P, E, N, S, M, C, O, L) J) {x : Int32} (hl : P.length + 25 < 10600) (hQ1 : ∀ n, n ≤ 9999 → (x = nI n ∨ (x < 0 ∧ n = 0)) → ∀ J', RR H (K, grm n P, E, N, S, M, C, O, L) J' → Q (.inl none) (sh59, J', Lg, Rf, nc, ns)) (hQ2 : ¬ x ≤ 9999 → ∀ J', RD H (K, P, E, N, S, M, C, O, L) J' → Q (.inl none) (sh59, J', Lg, Rf, nc, ns)) : mj_call X mj_P (mj_bi X) (d + 4) 140 [.ref 36, .int x] (sh59, J, Lg, Rf, nc, ns) Q := by
  have hm := mm_rf hM'
  have h39 := (rr_d h).1.2.2.2
  have L76 : ∀ (m n i : Nat) (P1 : List Nat) (J1 : Nat → Nat → Int32), n ≤ 9999 → i + m = n / 1000 → P1.length + m < 10600 → RR H (K, P1, E, N, S, M, C, O, L) J1 → (∀ J', RR H (K, rpl 109 m P1, E, N, S, M, C, O, L) J' → Q (.inl none) (sh59, J', Lg, Rf, nc, ns)) → mj_rn X (mj_hd []) (mj_call X mj_P (mj_bi X) (d + 3)) mb_140 76 [some (.ref 36), some (.int (nI n)), some (.int (nI i))] [] (sh59, J1, Lg, Rf, nc, ns) Q := by
    intro m
    induction m with
    | zero =>
      intro n i P1 J1 hn hi h1 h2 hq
      have e : nI n / 1000 = nI (n / 1000) := pk_div (by omega) (by decide) (by decide)
      obtain rfl : i = n / 1000 := by omega
      refine mj_blk rfl ?_
      simp +decide only [mjs_0, mjs_1, mjs_2, mjs_3, mjs_ble, true_and, Bool.false_eq_true, if_false, if_true, Nat.reduceAdd, Nat.reduceSub, Nat.reduceLeDiff, false_implies, true_implies, not_false_eq_true, not_true_eq_false, and_true, e]
      refine ⟨fun _ => mj_blk rfl ?_, fun q' => absurd (nI_le (Nat.le_refl _) (by omega)) q'⟩
      simp +decide only [mjs_0, mjs_1, mjs_2, mjs_3, mjs_ble, true_and, Bool.false_eq_true, if_false, if_true, Nat.reduceAdd, Nat.reduceSub, Nat.reduceLeDiff, false_implies, true_implies, not_false_eq_true, not_true_eq_false, and_true]
      exact hq J1 h2
    | succ m ih =>
      intro n i P1 J1 hn hi h1 h2 hq
      have e : nI n / 1000 = nI (n / 1000) := pk_div (by omega) (by decide) (by decide)
      refine mj_blk rfl ?_
      simp +decide only [mjs_0, mjs_1, mjs_2, mjs_3, mjs_ble, true_and, Bool.false_eq_true, if_false, if_true, Nat.reduceAdd, Nat.reduceSub, Nat.reduceLeDiff, false_implies, true_implies, not_false_eq_true, not_true_eq_false, and_true, e]
      refine ⟨fun q' => absurd q' (nI_ge (by omega) (by omega)), fun _ => mj_blk rfl ?_⟩
      simp +decide only [mjs_0, mjs_1, mjs_2, mjs_3, mjs_ble, true_and, Bool.false_eq_true, if_false, if_true, Nat.reduceAdd, Nat.reduceSub, Nat.reduceLeDiff, false_implies, true_implies, not_false_eq_true, not_true_eq_false, and_true, mm_sh]
      refine rq_136 (c := 109) hM' h2 (by omega) (fun J' h' => ?_) (by decide)
      simp +decide only [mjs_0, mjs_1, mjs_2, mjs_3, mjs_ble, true_and, Bool.false_eq_true, if_false, if_true, Nat.reduceAdd, Nat.reduceSub, Nat.reduceLeDiff, false_implies, true_implies, not_false_eq_true, not_true_eq_false, and_true, nI_1]
      exact ih n (i + 1) _ J' hn (by omega) (by rw [List.length_cons]; omega) h' hq
  refine mj_enter (z := (3, [], mb_140)) (by decide) rfl rfl ?_
  refine mj_blk rfl ?_
  simp +decide only [mjs_0, mjs_1, mjs_2, mjs_3, mjs_ble, true_and, Bool.false_eq_true, if_false, if_true, Nat.reduceAdd, Nat.reduceSub, Nat.reduceLeDiff, false_implies, true_implies, not_false_eq_true, not_true_eq_false, and_true, mm_sh, hm, mjs_up_at, mjs_up_c, mjs_up_f, h39]
  refine mj_blk rfl ?_
  simp +decide only [mjs_0, mjs_1, mjs_2, mjs_3, mjs_ble, true_and, Bool.false_eq_true, if_false, if_true, Nat.reduceAdd, Nat.reduceSub, Nat.reduceLeDiff, false_implies, true_implies, not_false_eq_true, not_true_eq_false, and_true]
  refine ⟨fun q => mj_blk rfl ?_, fun q => mj_blk rfl ?_⟩
  · simp +decide only [mjs_0, mjs_1, mjs_2, mjs_3, mjs_ble, true_and, Bool.false_eq_true, if_false, if_true, Nat.reduceAdd, Nat.reduceSub, Nat.reduceLeDiff, false_implies, true_implies, not_false_eq_true, not_true_eq_false, and_true]
    refine ⟨fun q2 => mj_blk rfl ?_, fun q2 => mj_blk rfl ?_⟩
    · have hn : ¬ x < 0 := fun hh => Int32.lt_irrefl (Int32.lt_trans hh q)
      obtain ⟨n, h1, rfl⟩ := nI_of2 (M := 9999) (n := 9999) rfl hn q2
      have hq := hQ1 n h1 (Or.inl rfl)
      unfold grm at hq
      have g1 := rdg_len (q := n % 10) (a := 105) (b := 118) (c := 120) (P := P)
      have g2 := rdg_len (q := n / 10 % 10) (a := 120) (b := 108) (c := 99) (P := rdg (n % 10) 105 118 120 P)
      have g3 := rdg_len (q := n / 100 % 10) (a := 99) (b := 100) (c := 109) (P := rdg (n / 10 % 10) 120 108 99 (rdg (n % 10) 105 118 120 P))
      have e1 : nI n - nI n / 10 * 10 = nI (n % 10) := pk_rem (by omega) (by decide) (by decide)
      have e2 : nI n / 10 = nI (n / 10) := pk_div (by omega) (by decide) (by decide)
      have e3 : nI (n / 10) - nI (n / 10) / 10 * 10 = nI (n / 10 % 10) := pk_rem (by omega) (by decide) (by decide)
      have e4 : nI n / 100 = nI (n / 100) := pk_div (by omega) (by decide) (by decide)
      have e5 : nI (n / 100) - nI (n / 100) / 10 * 10 = nI (n / 100 % 10) := pk_rem (by omega) (by decide) (by decide)
      simp +decide only [mjs_0, mjs_1, mjs_2, mjs_3, mjs_ble, true_and, Bool.false_eq_true, if_false, if_true, Nat.reduceAdd, Nat.reduceSub, Nat.reduceLeDiff, false_implies, true_implies, not_false_eq_true, not_true_eq_false, and_true, mm_sh, e1]
      refine rq_139 (a := 105) (b := 118) (c := 120) hM' h (by omega) (by decide) (by decide) (by decide) (by omega) (fun J1 h1 => ?_)
      simp +decide only [mjs_0, mjs_1, mjs_2, mjs_3, mjs_ble, true_and, Bool.false_eq_true, if_false, if_true, Nat.reduceAdd, Nat.reduceSub, Nat.reduceLeDiff, false_implies, true_implies, not_false_eq_true, not_true_eq_false, and_true, mm_sh, e2, e3]
      refine rq_139 (a := 120) (b := 108) (c := 99) hM' h1 (by omega) (by decide) (by decide) (by decide) (by omega) (fun J2 h2 => ?_)
      simp +decide only [mjs_0, mjs_1, mjs_2, mjs_3, mjs_ble, true_and, Bool.false_eq_true, if_false, if_true, Nat.reduceAdd, Nat.reduceSub, Nat.reduceLeDiff, false_implies, true_implies, not_false_eq_true, not_true_eq_false, and_true, mm_sh, e4, e5]
      refine rq_139 (a := 99) (b := 100) (c := 109) hM' h2 (by omega) (by decide) (by decide) (by decide) (by omega) (fun J3 h3 => ?_)
      simp +decide only [mjs_0, mjs_1, mjs_2, mjs_3, mjs_ble, true_and, Bool.false_eq_true, if_false, if_true, Nat.reduceAdd, Nat.reduceSub, Nat.reduceLeDiff, false_implies, true_implies, not_false_eq_true, not_true_eq_false, and_true]
      exact L76 (n / 1000) n 0 _ J3 (by omega) (by omega) (by omega) h3 hq
    · simp +decide only [mjs_0, mjs_1, mjs_2, mjs_3, mjs_ble, true_and, Bool.false_eq_true, if_false, if_true, Nat.reduceAdd, Nat.reduceSub, Nat.reduceLeDiff, false_implies, true_implies, not_false_eq_true, not_true_eq_false, and_true, mm_sh]
      refine c_106 s59_36 ?_
      rw [if_pos h39]
      simp +decide only [mjs_0, mjs_1, mjs_2, mjs_3, mjs_ble, true_and, Bool.false_eq_true, if_false, if_true, Nat.reduceAdd, Nat.reduceSub, Nat.reduceLeDiff, false_implies, true_implies, not_false_eq_true, not_true_eq_false, and_true]
      exact hQ2 q2 _ (rr_f (f := 7) (by decide) (by decide) h)
  · have hz : x < 0 ∨ x = 0 := by
      by_cases hh : x < 0
      · exact Or.inl hh
      · right
        have := nab_p hh
        by_cases h0 : nab x = 0
        · rw [this, h0]
          rfl
        · exact absurd (by rw [this]; exact nI_lt (a := 0) (by omega) (nab_lt (fun e => hh (by rw [e]; decide)))) q
    simp +decide only [mjs_0, mjs_1, mjs_2, mjs_3, mjs_ble, true_and, Bool.false_eq_true, if_false, if_true, Nat.reduceAdd, Nat.reduceSub, Nat.reduceLeDiff, false_implies, true_implies, not_false_eq_true, not_true_eq_false, and_true]
    refine hQ1 0 (by decide) ?_ J h
    rcases hz with hz | hz
    · exact Or.inr ⟨hz, rfl⟩
    · exact Or.inl hz
end MJDG
