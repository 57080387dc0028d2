/-! STRINGS, NUMBERS AND ROMAN NUMERALS PUT, in both -/
def pch (c : Nat) : Nat := if c = 32 then 2592 else 3072 + c
theorem pch_lt {c : Nat} (hc : c < 256) : pch c < 3328 := by
  unfold pch
  split <;> omega
theorem pch_rt {c : Nat} (hc : c < 256) : rt (pch c) = pch c := by
  have := pch_lt hc
  unfold rt rb
  rw [if_neg (by omega), if_pos this]
theorem pch_tv {k c : Nat} (hc : c < 256) : tv k (pch c) := by
  have := pch_lt hc
  exact Or.inl (Or.inl (by omega))
/-- a name's letters put, the last one first -/
def spl (f : Nat → Nat) : Nat → List Nat → List Nat
  | 0, P => P
  | n + 1, P => spl f n (pch (f n) :: P)
theorem spl_len {f : Nat → Nat} : ∀ {n : Nat} {P : List Nat}, (spl f n P).length = P.length + n
  | 0, _ => rfl
  | n + 1, P => by
    show (spl f n (pch (f n) :: P)).length = _
    rw [spl_len, List.length_cons]
    omega
theorem spl_mem {f : Nat → Nat} {p : Nat → Prop} : ∀ {n : Nat} {P : List Nat}, (∀ j, j < n → p (pch (f j))) → (∀ t ∈ P, p t) → ∀ t ∈ spl f n P, p t
  | 0, _, _, h => h
  | n + 1, P, hf, h => spl_mem (P := pch (f n) :: P) (fun j hj => hf j (by omega)) (fun t ht => by
      rcases List.mem_cons.mp ht with rfl | ht
      · exact hf n (Nat.lt_succ_self n)
      · exact h t ht)
def gst (N : sgN) (t : Nat) (P : List Nat) : List Nat := if t / 65536 % 2 = 1 then pch 92 :: spl (N.1 (t % 65536)) (N.2.1 (t % 65536)) P else pch (t % 256) :: P
/-- digits put, the last one first -/
def pdg : Nat → Nat → List Nat → List Nat
  | 0, _, P => P
  | f + 1, a, P => if a = 0 then P else pdg f (a / 10) (pch (48 + a % 10) :: P)
theorem pdg_len : ∀ {f a : Nat} {P : List Nat}, (pdg f a P).length ≤ P.length + f
  | 0, _, _ => Nat.le_refl _
  | f + 1, a, P => by
    unfold pdg
    split
    · omega
    · have := pdg_len (f := f) (a := a / 10) (P := pch (48 + a % 10) :: P)
      rw [List.length_cons] at this
      omega
theorem pdg_mem {p : Nat → Prop} (hp : ∀ c, c < 256 → p (pch c)) : ∀ {f a : Nat} {P : List Nat}, (∀ t ∈ P, p t) → ∀ t ∈ pdg f a P, p t
  | 0, _, _, h => h
  | f + 1, a, P, h => by
    unfold pdg
    split
    · exact h
    · refine pdg_mem hp (fun t ht => ?_)
      rcases List.mem_cons.mp ht with rfl | ht
      · exact hp _ (by omega)
      · exact h t ht
def nab (x : Int32) : Nat := x.toInt.natAbs
def pnm (x : Int32) (P : List Nat) : List Nat := if x < 0 then pch 45 :: pdg 9 (nab x / 10) (pch (48 + nab x % 10) :: P) else pdg 9 (nab x / 10) (pch (48 + nab x % 10) :: P)
theorem nab_lt {x : Int32} (h : x ≠ -2147483648) : nab x < 2 ^ 31 := by
  unfold nab
  have h1 := x.le_toInt
  have h2 := x.toInt_lt
  have h3 : x.toInt ≠ -2147483648 := fun e => h (Int32.toInt_inj.mp (by rw [e]; decide))
  omega
theorem nab_p {x : Int32} (h : ¬ x < 0) : x = nI (nab x) := by
  obtain ⟨j, h1, rfl⟩ := nI_of h
  unfold nab
  rw [nI_toInt h1]
  rfl
theorem nab_n {x : Int32} (h : x < 0) (hm : x ≠ -2147483648) : 0 - x = nI (nab x) ∧ 0 < nab x := by
  have hl := nab_lt hm
  have h1 : x.toInt < 0 := by
    have := Int32.lt_iff_toInt_lt.mp h
    exact this
  have h2 := x.le_toInt
  refine ⟨?_, by unfold nab; omega⟩
  apply Int32.toInt_inj.mp
  rw [nI_toInt hl, Int32.toInt_sub]
  unfold nab at hl ⊢
  rw [show (0 : Int32).toInt = 0 from rfl, Int.bmod_def]
  omega
section MJPU
variable {X : mj_X} {d nc ns : Nat} {Q : mj_Q} {I I' J J' H : Nat → Nat → Int32} {Lg : Nat → Nat → Int64} {Rf : Nat → Nat → Option Nat} {fb : Nat → Nat → Int32} {vb : Nat → Int32} {K : Nat × Nat × Nat} {P : List Nat} {E : sgE} {N : sgN} {S : sgS} {M : sgM} {C : sgC} {O : sgO} {L L' : sgL} {t : Nat}
theorem cq_30 (hR : mj_Rt mp_R Rf) (h : RC fb vb (K, P, E, N, S, M, C, O, L) I) {c : Nat} (hl : P.length + 1 < 10100) (hQ : ∀ I', RC fb vb (K, pch c :: P, E, N, S, M, C, O, L) I' → (∀ b q, b ≠ 17 → b ≠ 19 → I' b q = I b q) → Q (.inl none) (sh59, I', Lg, Rf, nc, ns)) (hc : c < 256) : mj_call X mj_P (mj_bi X) (d + 2) 30 [.ref 28, .int (nI c)] (sh59, I, Lg, Rf, nc, ns) Q := by
  have hr := mc_rf hR
  have K21 : ∀ a b : Option Value, mj_rn X (mj_hd []) (mj_call X mj_P (mj_bi X) (d + 1)) mb_30 21 [a, b] [.int (nI (pch c)), .ref 17] (sh59, I, Lg, Rf, nc, ns) Q := by
    intro a b
    refine mj_blk rfl ?_
    simp +decide only [mjs_0, mjs_1, mjs_2, mjs_3, mjs_ble, true_and, Bool.false_eq_true, if_false, if_true, Nat.reduceAdd, Nat.reduceSub, Nat.reduceLeDiff, false_implies, true_implies, not_false_eq_true, not_true_eq_false, and_true, mc_sh, hr, mjs_up_at, mjs_up_c, mjs_up_f]
    refine cq_84 hR h hl (fun I' h' hf => ?_)
    simp +decide only [mjs_0, mjs_1, mjs_2, mjs_3, mjs_ble, true_and, Bool.false_eq_true, if_false, if_true, Nat.reduceAdd, Nat.reduceSub, Nat.reduceLeDiff, false_implies, true_implies, not_false_eq_true, not_true_eq_false, and_true, mc_sh, hr, mjs_up_at, mjs_up_c, mjs_up_f]
    exact hQ I' h' hf
  refine mj_enter (z := (2, [], mb_30)) (by decide) rfl rfl ?_
  refine mj_blk rfl ?_
  simp +decide only [mjs_0, mjs_1, mjs_2, mjs_3, mjs_ble, true_and, Bool.false_eq_true, if_false, if_true, Nat.reduceAdd, Nat.reduceSub, Nat.reduceLeDiff, false_implies, true_implies, not_false_eq_true, not_true_eq_false, and_true, mc_sh, hr, mjs_up_at, mjs_up_c, mjs_up_f]
  refine ⟨fun q => mj_blk rfl ?_, fun q => mj_blk rfl ?_⟩
  · have e : (3072 : Int32) + nI c = nI (pch c) := by
      have : c ≠ 32 := fun e => q (by rw [e]; rfl)
      unfold pch
      rw [if_neg this]
      exact nI_add 3072 c
    simp +decide only [mjs_0, mjs_1, mjs_2, mjs_3, mjs_ble, true_and, Bool.false_eq_true, if_false, if_true, Nat.reduceAdd, Nat.reduceSub, Nat.reduceLeDiff, false_implies, true_implies, not_false_eq_true, not_true_eq_false, and_true, mc_sh, hr, mjs_up_at, mjs_up_c, mjs_up_f, e]
    exact K21 _ _
  · have e : (2592 : Int32) = nI (pch c) := by
      have : c = 32 := (nI_eq (by omega) (by decide)).mp (show nI c = nI 32 from Decidable.not_not.mp q)
      rw [this]
      rfl
    simp +decide only [mjs_0, mjs_1, mjs_2, mjs_3, mjs_ble, true_and, Bool.false_eq_true, if_false, if_true, Nat.reduceAdd, Nat.reduceSub, Nat.reduceLeDiff, false_implies, true_implies, not_false_eq_true, not_true_eq_false, and_true, mc_sh, hr, mjs_up_at, mjs_up_c, mjs_up_f]
    rw [e]
    exact K21 _ _
theorem rq_136 (hM' : mj_Rt mm_R Rf) (h : RR H (K, P, E, N, S, M, C, O, L) J) {c : Nat} (hl : P.length < 10600) (hQ : ∀ J', RR H (K, pch c :: P, E, N, S, M, C, O, L) J' → Q (.inl none) (sh59, J', Lg, Rf, nc, ns)) (hc : c < 256) : mj_call X mj_P (mj_bi X) (d + 2) 136 [.ref 36, .int (nI c)] (sh59, J, Lg, Rf, nc, ns) Q := by
  have K18 : ∀ a b : Option Value, mj_rn X (mj_hd []) (mj_call X mj_P (mj_bi X) (d + 1)) mb_136 18 [a, b] [.int (nI (pch c)), .ref 36] (sh59, J, Lg, Rf, nc, ns) Q := by
    intro a b
    refine mj_blk rfl ?_
    simp +decide only [mjs_0, mjs_1, mjs_2, mjs_3, mjs_ble, true_and, Bool.false_eq_true, if_false, if_true, Nat.reduceAdd, Nat.reduceSub, Nat.reduceLeDiff, false_implies, true_implies, not_false_eq_true, not_true_eq_false, and_true, mm_sh]
    rw [← pch_rt hc]
    refine rq_118 hM' h (by rw [pch_rt hc]; have := pch_lt hc; omega) hl (fun J' h' => ?_)
    simp +decide only [mjs_0, mjs_1, mjs_2, mjs_3, mjs_ble, true_and, Bool.false_eq_true, if_false, if_true, Nat.reduceAdd, Nat.reduceSub, Nat.reduceLeDiff, false_implies, true_implies, not_false_eq_true, not_true_eq_false, and_true]
    exact hQ J' h'
  refine mj_enter (z := (2, [], mb_136)) (by decide) rfl rfl ?_
  refine mj_blk rfl ?_
  simp +decide only [mjs_0, mjs_1, mjs_2, mjs_3, mjs_ble, true_and, Bool.false_eq_true, if_false, if_true, Nat.reduceAdd, Nat.reduceSub, Nat.reduceLeDiff, false_implies, true_implies, not_false_eq_true, not_true_eq_false, and_true]
  refine ⟨fun q => mj_blk rfl ?_, fun q => mj_blk rfl ?_⟩
  · have e : (3072 : Int32) + nI c = nI (pch c) := by
      have : c ≠ 32 := fun e => q (by rw [e]; rfl)
      unfold pch
      rw [if_neg this]
      exact nI_add 3072 c
    simp +decide only [mjs_0, mjs_1, mjs_2, mjs_3, mjs_ble, true_and, Bool.false_eq_true, if_false, if_true, Nat.reduceAdd, Nat.reduceSub, Nat.reduceLeDiff, false_implies, true_implies, not_false_eq_true, not_true_eq_false, and_true, e]
    exact K18 _ _
  · have e : (2592 : Int32) = nI (pch c) := by
      have : c = 32 := (nI_eq (by omega) (by decide)).mp (show nI c = nI 32 from Decidable.not_not.mp q)
      rw [this]
      rfl
    simp +decide only [mjs_0, mjs_1, mjs_2, mjs_3, mjs_ble, true_and, Bool.false_eq_true, if_false, if_true, Nat.reduceAdd, Nat.reduceSub, Nat.reduceLeDiff, false_implies, true_implies, not_false_eq_true, not_true_eq_false, and_true]
    rw [e]
    exact K18 _ _
theorem cq_29 (hR : mj_Rt mp_R Rf) (h : RC fb vb (K, P, E, N, S, M, C, O, L) I) (hv : gv (K, P, E, N, S, M, C, O, L)) (ht : tv N.2.2 t) (hl : P.length + 42 < 10100) (hQ : ∀ I', RC fb vb (K, gst N t P, E, N, S, M, C, O, L) I' → Q (.inl none) (sh59, I', Lg, Rf, nc, ns)) : mj_call X mj_P (mj_bi X) (d + 3) 29 [.ref 28, .int (nI t)] (sh59, I, Lg, Rf, nc, ns) Q := by
  have hr := mc_rf hR
  have hk : N.2.2 ≤ 1036 := (gv_d hv).2.2.1.2.1
  have htl := tv_lt hk ht
  unfold gst at hQ
  refine mj_enter (z := (4, [], mb_29)) (by decide) rfl rfl ?_
  refine mj_blk rfl ?_
  simp +decide only [mjs_0, mjs_1, mjs_2, mjs_3, mjs_ble, true_and, Bool.false_eq_true, if_false, if_true, Nat.reduceAdd, Nat.reduceSub, Nat.reduceLeDiff, false_implies, true_implies, not_false_eq_true, not_true_eq_false, and_true]
  refine c_186 (by omega) ?_
  by_cases hn : t / 65536 % 2 = 1
  · rw [if_pos hn] at hQ ⊢
    have hx : t % 65536 < N.2.2 := by
      unfold tv tb at ht
      omega
    obtain ⟨x, hxe⟩ : ∃ x, x = t % 65536 := ⟨_, rfl⟩
    rw [← hxe] at hx hQ
    have L36 : ∀ (n : Nat) (P : List Nat) (I : Nat → Nat → Int32) (st : Nat → Nat), n ≤ N.2.1 x → RC fb vb (K, P, E, N, S, M, C, O, L) I → P.length + n + 1 < 10100 → fd_C I 2 3 4 5 6 N.1 N.2.1 st N.2.2 → (∀ I', RC fb vb (K, pch 92 :: spl (N.1 x) n P, E, N, S, M, C, O, L) I' → Q (.inl none) (sh59, I', Lg, Rf, nc, ns)) → ∀ (w : Option Value) (v : Int32), v + 1 = nI (st x + n) → mj_rn X (mj_hd []) (mj_call X mj_P (mj_bi X) (d + 2)) mb_29 36 [some (.ref 28), w, some (.int (nI x)), some (.int v)] [] (sh59, I, Lg, Rf, nc, ns) Q := by
      intro n
      induction n with
      | zero =>
        intro P I st hn h hP hC hq w v hv'
        obtain ⟨c1, c2, c3, c4, c5, c6⟩ := hC
        have s5 := c5 x (by omega)
        have e1 : (nI x).toNatClampNeg = x := nI_clamp (by omega)
        have ev : v = nI (st x) - 1 := by rw [← Nat.add_zero (st x), ← hv']; exact (Int32.add_sub_cancel v 1).symm
        have hlt : v < nI (st x) := by
          rw [ev, vk_sub]
          exact (vk_lt (by omega) (by omega)).mpr (Nat.le_refl _)
        refine mj_blk rfl ?_
        simp +decide only [mjs_0, mjs_1, mjs_2, mjs_3, mjs_ble, true_and, Bool.false_eq_true, if_false, if_true, Nat.reduceAdd, Nat.reduceSub, Nat.reduceLeDiff, false_implies, true_implies, not_false_eq_true, not_true_eq_false, and_true, mc_sh, hr, mjs_up_at, mjs_up_c, mjs_up_f, e1, c3 x (by omega)]
        refine ⟨nI_in (by omega) (by decide), fun _ => mj_blk rfl ?_, fun q => absurd hlt q⟩
        simp +decide only [mjs_0, mjs_1, mjs_2, mjs_3, mjs_ble, true_and, Bool.false_eq_true, if_false, if_true, Nat.reduceAdd, Nat.reduceSub, Nat.reduceLeDiff, false_implies, true_implies, not_false_eq_true, not_true_eq_false, and_true, mc_sh, hr, mjs_up_at, mjs_up_c, mjs_up_f]
        refine cq_30 (c := 92) hR h (by omega) (fun I' h' _ => ?_) (by decide)
        simp +decide only [mjs_0, mjs_1, mjs_2, mjs_3, mjs_ble, true_and, Bool.false_eq_true, if_false, if_true, Nat.reduceAdd, Nat.reduceSub, Nat.reduceLeDiff, false_implies, true_implies, not_false_eq_true, not_true_eq_false, and_true, mc_sh, hr, mjs_up_at, mjs_up_c, mjs_up_f]
        exact hq I' h'
      | succ n ih =>
        intro P I st hn h hP hC hq w v hv'
        have hC' := hC
        obtain ⟨c1, c2, c3, c4, c5, c6⟩ := hC
        have s5 := c5 (x + 1) (by omega)
        have s4 := c4 x hx
        obtain ⟨l1, l2⟩ := c6 x n hx (by omega)
        have nmb := ((gv_d hv).2.2.1.2.2.1 x hx).2 n (by omega)
        have e1 : (nI x).toNatClampNeg = x := nI_clamp (by omega)
        have ev : v = nI (st x + n) := by
          have := congrArg (· - 1) hv'
          simp only [Int32.add_sub_cancel] at this
          rw [this, show st x + (n + 1) = st x + n + 1 by omega, nI_pred]
        subst ev
        have e2 : (nI (st x + n)).toNatClampNeg = st x + n := nI_clamp (by omega)
        refine mj_blk rfl ?_
        simp +decide only [mjs_0, mjs_1, mjs_2, mjs_3, mjs_ble, true_and, Bool.false_eq_true, if_false, if_true, Nat.reduceAdd, Nat.reduceSub, Nat.reduceLeDiff, false_implies, true_implies, not_false_eq_true, not_true_eq_false, and_true, mc_sh, hr, mjs_up_at, mjs_up_c, mjs_up_f, e1, c3 x (by omega)]
        refine ⟨nI_in (by omega) (by decide), fun q => absurd q (nI_nlt (by omega) (by omega)), fun _ => mj_blk rfl ?_⟩
        simp +decide only [mjs_0, mjs_1, mjs_2, mjs_3, mjs_ble, true_and, Bool.false_eq_true, if_false, if_true, Nat.reduceAdd, Nat.reduceSub, Nat.reduceLeDiff, false_implies, true_implies, not_false_eq_true, not_true_eq_false, and_true, mc_sh, hr, mjs_up_at, mjs_up_c, mjs_up_f, e2, l1]
        refine ⟨nI_in (by omega) (by decide), cq_30 hR h (by omega) (fun I' h' hf => ?_) nmb⟩
        simp +decide only [mjs_0, mjs_1, mjs_2, mjs_3, mjs_ble, true_and, Bool.false_eq_true, if_false, if_true, Nat.reduceAdd, Nat.reduceSub, Nat.reduceLeDiff, false_implies, true_implies, not_false_eq_true, not_true_eq_false, and_true, mc_sh, hr, mjs_up_at, mjs_up_c, mjs_up_f]
        refine ih (pch (N.1 x n) :: P) I' st (by omega) h' (by simp only [List.length_cons]; omega) ?_ hq _ _ (by rw [Int32.add_assoc, show (-1 : Int32) + 1 = 0 from by decide, Int32.add_zero])
        refine mx_on (fun I' => fd_C I' 2 3 4 5 6 N.1 N.2.1 st N.2.2) [17, 19] (fun b q hb => hf b q (mxm_ne hb (by decide)) (mxm_ne hb (by decide))) ?_
        exact hC'
    obtain ⟨st, hC, -⟩ := (rc_d h).2.2.2.1
    have hC' := hC
    obtain ⟨c1, c2, c3, c4, c5, c6⟩ := hC
    have s4 := c4 x hx
    have s5 := c5 (x + 1) (by omega)
    have e1 : (nI (x + 1)).toNatClampNeg = x + 1 := nI_clamp (by omega)
    simp +decide only [mjs_0, mjs_1, mjs_2, mjs_3, mjs_ble, true_and, Bool.false_eq_true, if_false, if_true, Nat.reduceAdd, Nat.reduceSub, Nat.reduceLeDiff, false_implies, true_implies, not_false_eq_true, not_true_eq_false, and_true]
    refine mj_blk rfl ?_
    simp +decide only [mjs_0, mjs_1, mjs_2, mjs_3, mjs_ble, true_and, Bool.false_eq_true, if_false, if_true, Nat.reduceAdd, Nat.reduceSub, Nat.reduceLeDiff, false_implies, true_implies, not_false_eq_true, not_true_eq_false, and_true, mc_sh, hr, mjs_up_at, mjs_up_c, mjs_up_f, bt_65535, ← hxe, nI_1, e1, c3 (x + 1) (by omega)]
    refine ⟨nI_in (by omega) (by decide), L36 (N.2.1 x) P I st (Nat.le_refl _) h (by have := s4.2; omega) hC' hQ _ _ ?_⟩
    rw [s4.1]
    exact Int32.sub_add_cancel _ _
  · rw [if_neg hn] at hQ ⊢
    simp +decide only [mjs_0, mjs_1, mjs_2, mjs_3, mjs_ble, true_and, Bool.false_eq_true, if_false, if_true, Nat.reduceAdd, Nat.reduceSub, Nat.reduceLeDiff, false_implies, true_implies, not_false_eq_true, not_true_eq_false, and_true]
    refine mj_blk rfl ?_
    simp +decide only [mjs_0, mjs_1, mjs_2, mjs_3, mjs_ble, true_and, Bool.false_eq_true, if_false, if_true, Nat.reduceAdd, Nat.reduceSub, Nat.reduceLeDiff, false_implies, true_implies, not_false_eq_true, not_true_eq_false, and_true, mc_sh, hr, mjs_up_at, mjs_up_c, mjs_up_f, bt_255]
    refine cq_30 hR h (by omega) (fun I' h' _ => ?_) (by omega)
    simp +decide only [mjs_0, mjs_1, mjs_2, mjs_3, mjs_ble, true_and, Bool.false_eq_true, if_false, if_true, Nat.reduceAdd, Nat.reduceSub, Nat.reduceLeDiff, false_implies, true_implies, not_false_eq_true, not_true_eq_false, and_true]
    exact hQ I' h'
theorem rq_137 (hM' : mj_Rt mm_R Rf) (h : RR H (K, P, E, N, S, M, C, O, L) J) (hv : gv (K, P, E, N, S, M, C, O, L)) (ht : tv N.2.2 t) (hl : P.length + 42 < 10600) (hQ : ∀ J', RR H (K, gst N t P, E, N, S, M, C, O, L) J' → Q (.inl none) (sh59, J', Lg, Rf, nc, ns)) : mj_call X mj_P (mj_bi X) (d + 3) 137 [.ref 36, .int (nI (rt t))] (sh59, J, Lg, Rf, nc, ns) Q := by
  have hm := mm_rf hM'
  have hk : N.2.2 ≤ 1036 := (gv_d hv).2.2.1.2.1
  have hk1 : 36 ≤ N.2.2 := (gv_d hv).2.2.1.1
  have hlt := rt_lt hk hk1 ht
  have L50 : ∀ (x n : Nat) (P : List Nat) (J : Nat → Nat → Int32), x < N.2.2 → n ≤ N.2.1 x → RR H (K, P, E, N, S, M, C, O, L) J → P.length + n + 1 < 10600 → (∀ J', RR H (K, pch 92 :: spl (N.1 x) n P, E, N, S, M, C, O, L) J' → Q (.inl none) (sh59, J', Lg, Rf, nc, ns)) → ∀ (w w' : Option Value) (v : Int32), v + 1 = nI n → mj_rn X (mj_hd []) (mj_call X mj_P (mj_bi X) (d + 2)) mb_137 50 [some (.ref 36), w, w', some (.int (nI (rp x))), some (.int v)] [] (sh59, J, Lg, Rf, nc, ns) Q := by
    intro x n
    induction n with
    | zero =>
      intro P J hx hn h hP hq w w' v hv'
      have hlt : v < 0 := by
        have ev : v = 0 - 1 := by rw [show (0 : Int32) = nI 0 from rfl, ← hv']; exact (Int32.add_sub_cancel v 1).symm
        rw [ev]
        decide
      refine mj_blk rfl ?_
      simp +decide only [mjs_0, mjs_1, mjs_2, mjs_3, mjs_ble, true_and, Bool.false_eq_true, if_false, if_true, Nat.reduceAdd, Nat.reduceSub, Nat.reduceLeDiff, false_implies, true_implies, not_false_eq_true, not_true_eq_false, and_true, mm_sh, hm, mjs_up_at, mjs_up_c, mjs_up_f]
      refine ⟨fun _ => mj_blk rfl ?_, fun q => absurd hlt q⟩
      simp +decide only [mjs_0, mjs_1, mjs_2, mjs_3, mjs_ble, true_and, Bool.false_eq_true, if_false, if_true, Nat.reduceAdd, Nat.reduceSub, Nat.reduceLeDiff, false_implies, true_implies, not_false_eq_true, not_true_eq_false, and_true, mm_sh, hm, mjs_up_at, mjs_up_c, mjs_up_f]
      refine rq_136 (c := 92) hM' h (by omega) (fun J' h' => ?_) (by decide)
      simp +decide only [mjs_0, mjs_1, mjs_2, mjs_3, mjs_ble, true_and, Bool.false_eq_true, if_false, if_true, Nat.reduceAdd, Nat.reduceSub, Nat.reduceLeDiff, false_implies, true_implies, not_false_eq_true, not_true_eq_false, and_true, mm_sh, hm, mjs_up_at, mjs_up_c, mjs_up_f]
      exact hq J' h'
    | succ n ih =>
      intro P J hx hn h hP hq w w' v hv'
      obtain ⟨rn, rl, n1, n2⟩ := (rr_d h).2.2.2.1
      have hrx := rp_lt hx hk1
      obtain ⟨m1, m2, m3⟩ := n1.2.2 (rp x) hrx
      obtain ⟨m4, m5⟩ := n2 x hx
      obtain ⟨m6, m7⟩ := m3 n (by omega)
      rw [m5 n (by omega)] at m6 m7
      have ev : v = nI n := by
        have := congrArg (· - 1) hv'
        simp only [Int32.add_sub_cancel] at this
        rw [this, nI_pred]
      subst ev
      have e2 : (40 : Int32) * nI (rp x) = nI (40 * rp x) := pk_mul 40 _
      have e3 : (nI (40 * rp x + n)).toNatClampNeg = 40 * rp x + n := nI_clamp (by omega)
      have m6' : J 40 (40 * rp x + n) &&& 255 = nI (N.1 x n) := m6
      refine mj_blk rfl ?_
      simp +decide only [mjs_0, mjs_1, mjs_2, mjs_3, mjs_ble, true_and, Bool.false_eq_true, if_false, if_true, Nat.reduceAdd, Nat.reduceSub, Nat.reduceLeDiff, false_implies, true_implies, not_false_eq_true, not_true_eq_false, and_true, mm_sh, hm, mjs_up_at, mjs_up_c, mjs_up_f]
      refine ⟨fun q => absurd q (nI_pos (by omega)), fun _ => mj_blk rfl ?_⟩
      simp +decide only [mjs_0, mjs_1, mjs_2, mjs_3, mjs_ble, true_and, Bool.false_eq_true, if_false, if_true, Nat.reduceAdd, Nat.reduceSub, Nat.reduceLeDiff, false_implies, true_implies, not_false_eq_true, not_true_eq_false, and_true, mm_sh, hm, mjs_up_at, mjs_up_c, mjs_up_f, e2, nI_add, e3, m6']
      refine ⟨nI_in (by omega) (by decide), rq_136 hM' h (by omega) (fun J' h' => ?_) m7⟩
      simp +decide only [mjs_0, mjs_1, mjs_2, mjs_3, mjs_ble, true_and, Bool.false_eq_true, if_false, if_true, Nat.reduceAdd, Nat.reduceSub, Nat.reduceLeDiff, false_implies, true_implies, not_false_eq_true, not_true_eq_false, and_true, mm_sh, hm, mjs_up_at, mjs_up_c, mjs_up_f]
      exact ih (pch (N.1 x n) :: P) J' hx (by omega) h' (by simp only [List.length_cons]; omega) hq _ _ _ (by rw [Int32.add_assoc, show (-1 : Int32) + 1 = 0 from by decide, Int32.add_zero])
  unfold gst at hQ
  refine mj_enter (z := (5, [], mb_137)) (by decide) rfl rfl ?_
  refine mj_blk rfl ?_
  simp +decide only [mjs_0, mjs_1, mjs_2, mjs_3, mjs_ble, true_and, Bool.false_eq_true, if_false, if_true, Nat.reduceAdd, Nat.reduceSub, Nat.reduceLeDiff, false_implies, true_implies, not_false_eq_true, not_true_eq_false, and_true, mm_sh, hm, mjs_up_at, mjs_up_c, mjs_up_f, (rr_d h).1.2.2.2]
  refine mj_blk rfl ?_
  simp +decide only [mjs_0, mjs_1, mjs_2, mjs_3, mjs_ble, true_and, Bool.false_eq_true, if_false, if_true, Nat.reduceAdd, Nat.reduceSub, Nat.reduceLeDiff, false_implies, true_implies, not_false_eq_true, not_true_eq_false, and_true, mm_sh, hm, mjs_up_at, mjs_up_c, mjs_up_f]
  refine r_123 (by omega) ?_
  have hb : mr_ba (rt t) = rb (if 1048576 ≤ t then t - 1048576 else t) := by
    by_cases hh : 1048576 ≤ t
    · have hh2 : t < 2097152 := by have := tv_lt hk ht; omega
      have e : rt t = 524288 + rb (t - 1048576) := if_pos ⟨hh, hh2⟩
      rw [e, if_pos hh]
      unfold mr_ba
      rw [if_pos (by omega)]
      omega
    · have e : rt t = rb t := if_neg (fun h => hh h.1)
      have hb : tb N.2.2 t := by
        unfold tv tb at ht
        unfold tb
        omega
      have := (rb_lt hk hk1 hb).1
      rw [e, if_neg hh]
      unfold mr_ba
      rw [if_neg (by omega)]
  have hbt : tb N.2.2 (if 1048576 ≤ t then t - 1048576 else t) := by
    unfold tv tb at ht
    unfold tb
    split <;> omega
  rw [hb]
  have e6 : t / 65536 % 2 = (if 1048576 ≤ t then t - 1048576 else t) / 65536 % 2 := by split <;> omega
  have e7 : t % 65536 = (if 1048576 ≤ t then t - 1048576 else t) % 65536 := by split <;> omega
  have e8 : t % 256 = (if 1048576 ≤ t then t - 1048576 else t) % 256 := by split <;> omega
  rw [e6, e7, e8] at hQ
  generalize (if 1048576 ≤ t then t - 1048576 else t) = b at hQ hbt
  have hbl := rb_lt hk hk1 hbt
  have hbt' := tb_lt hk hbt
  have K25 : ¬ b / 65536 % 2 = 1 → ∀ a c e : Option Value, mj_rn X (mj_hd []) (mj_call X mj_P (mj_bi X) (d + 2)) mb_137 25 [some (.ref 36), a, some (.int (nI (rb b))), c, e] [] (sh59, J, Lg, Rf, nc, ns) Q := by
    intro hn a c e
    rw [if_neg hn] at hQ
    have e1 : nI (rb b) - nI (rb b) / 256 * 256 = nI (b % 256) := by
      have := pk_rem (a := rb b) (d := 256) (by omega) (by decide) (by decide)
      have hbb : rb b % 256 = b % 256 := by
        unfold tb at hbt
        unfold rb
        split
        · rfl
        · rw [if_pos (by omega)]
          omega
      rw [hbb] at this
      exact this
    refine mj_blk rfl ?_
    simp +decide only [mjs_0, mjs_1, mjs_2, mjs_3, mjs_ble, true_and, Bool.false_eq_true, if_false, if_true, Nat.reduceAdd, Nat.reduceSub, Nat.reduceLeDiff, false_implies, true_implies, not_false_eq_true, not_true_eq_false, and_true, mm_sh, hm, mjs_up_at, mjs_up_c, mjs_up_f, e1]
    refine rq_136 hM' h (by omega) (fun J' h' => ?_) (by omega)
    simp +decide only [mjs_0, mjs_1, mjs_2, mjs_3, mjs_ble, true_and, Bool.false_eq_true, if_false, if_true, Nat.reduceAdd, Nat.reduceSub, Nat.reduceLeDiff, false_implies, true_implies, not_false_eq_true, not_true_eq_false, and_true, mm_sh, hm, mjs_up_at, mjs_up_c, mjs_up_f]
    exact hQ J' h'
  simp +decide only [mjs_0, mjs_1, mjs_2, mjs_3, mjs_ble, true_and, Bool.false_eq_true, if_false, if_true, Nat.reduceAdd, Nat.reduceSub, Nat.reduceLeDiff, false_implies, true_implies, not_false_eq_true, not_true_eq_false, and_true, mm_sh, hm, mjs_up_at, mjs_up_c, mjs_up_f]
  refine ⟨fun q => K25 (fun hh => ?_) _ _ _, fun q => mj_blk rfl ?_⟩
  · have h1 : rb b < 65536 := (nI_ltI (by omega) (by decide)).mp (show nI (rb b) < nI 65536 from q)
    have := hbl.2.2.2.2.mpr h1
    omega
  · have h1 : ¬ rb b < 65536 := fun hh => q (show nI (rb b) < nI 65536 from nI_lt hh (by decide))
    simp +decide only [mjs_0, mjs_1, mjs_2, mjs_3, mjs_ble, true_and, Bool.false_eq_true, if_false, if_true, Nat.reduceAdd, Nat.reduceSub, Nat.reduceLeDiff, false_implies, true_implies, not_false_eq_true, not_true_eq_false, and_true, mm_sh, hm, mjs_up_at, mjs_up_c, mjs_up_f]
    refine ⟨fun q2 => mj_blk rfl ?_, fun q2 => K25 (fun hh => ?_) _ _ _⟩
    · have h2 : rb b < 131072 := (nI_ltI (by omega) (by decide)).mp (show nI (rb b) < nI 131072 from q2)
      have hb2 : 65536 ≤ b ∧ b < 65536 + N.2.2 ∧ rb b = 65536 + rp (b - 65536) := by
        unfold tb at hbt
        unfold rb at h1 h2 ⊢
        by_cases g1 : b < 3328
        · rw [if_pos g1] at h1
          omega
        · rw [if_neg g1] at h2 ⊢
          by_cases g2 : b < 3584
          · rw [if_pos g2] at h2
            omega
          · rw [if_neg g2, if_neg (by omega)]
            omega
      have hx : b - 65536 < N.2.2 := by omega
      have e9 : b % 65536 = b - 65536 := by omega
      rw [if_pos (by omega), e9] at hQ
      obtain ⟨rn, rl, n1, n2⟩ := (rr_d h).2.2.2.1
      have hrx := rp_lt hx hk1
      obtain ⟨m1, m2, m3⟩ := n1.2.2 (rp (b - 65536)) hrx
      obtain ⟨m4, m5⟩ := n2 (b - 65536) hx
      have e5 : nI (rb b) - 65536 = nI (rp (b - 65536)) := by
        rw [hb2.2.2]
        have := pk_sub (a := 65536 + rp (b - 65536)) (b := 65536) (by omega)
        rw [Nat.add_sub_cancel_left] at this
        exact this
      have e1 : (nI (rp (b - 65536))).toNatClampNeg = rp (b - 65536) := nI_clamp (by omega)
      have m1' : J 41 (rp (b - 65536)) = nI (N.2.1 (b - 65536)) := by
        rw [← m4]
        exact m1
      simp +decide only [mjs_0, mjs_1, mjs_2, mjs_3, mjs_ble, true_and, Bool.false_eq_true, if_false, if_true, Nat.reduceAdd, Nat.reduceSub, Nat.reduceLeDiff, false_implies, true_implies, not_false_eq_true, not_true_eq_false, and_true, mm_sh, hm, mjs_up_at, mjs_up_c, mjs_up_f, e5, e1, m1']
      refine ⟨nI_in (by omega) (by decide), L50 (b - 65536) (N.2.1 (b - 65536)) P J hx (Nat.le_refl _) h (by rw [← m4]; omega) hQ _ _ _ (Int32.sub_add_cancel _ _)⟩
    · have h2 : ¬ rb b < 131072 := fun hh => q2 (show nI (rb b) < nI 131072 from nI_lt hh (by decide))
      have := hbl.2.2.1
      unfold tb at hbt
      omega
end MJPU
