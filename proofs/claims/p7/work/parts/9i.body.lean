/-! THE BODY OF A MACRO PUT, in both -/
def pba (f : Nat → Nat) : Nat → List Nat → List Nat
  | 0, P => P
  | n + 1, P => pba f n (f n :: P)
theorem pba_len {f : Nat → Nat} : ∀ {n : Nat} {P : List Nat}, (pba f n P).length = P.length + n
  | 0, P => rfl
  | n + 1, P => by
    show (pba f n (f n :: P)).length = _
    rw [pba_len, List.length_cons]
    omega
theorem pba_mem {f : Nat → Nat} {p : Nat → Prop} : ∀ {n : Nat} {P : List Nat}, (∀ i, i < n → p (f i)) → (∀ t ∈ P, p t) → ∀ t ∈ pba f n P, p t
  | 0, P, _, h => h
  | n + 1, P, hf, h => pba_mem (n := n) (fun i hi => hf i (by omega)) (fun t ht => by
    rcases List.mem_cons.mp ht with rfl | ht
    · exact hf n (Nat.lt_succ_self n)
    · exact h t ht)
def bw (A : Nat → (Nat → Nat) × Nat) (t : Nat) : Nat := if 2097152 ≤ t then (A (t - 2097153)).2 else 1
def bl (pool : Nat → Nat) (A : Nat → (Nat → Nat) × Nat) (bo : Nat) : Nat → Nat
  | 0 => 0
  | n + 1 => bl pool A bo n + bw A (pool (bo + n))
def bp (A : Nat → (Nat → Nat) × Nat) (t : Nat) (P : List Nat) : List Nat := if 2097152 ≤ t then pba (A (t - 2097153)).1 (A (t - 2097153)).2 P else t :: P
def pbb (pool : Nat → Nat) (A : Nat → (Nat → Nat) × Nat) (bo : Nat) : Nat → List Nat → List Nat
  | 0, P => P
  | n + 1, P => pbb pool A bo n (bp A (pool (bo + n)) P)
theorem bp_len {A : Nat → (Nat → Nat) × Nat} {t : Nat} {P : List Nat} : (bp A t P).length = P.length + bw A t := by
  unfold bp bw
  split
  · exact pba_len
  · exact List.length_cons
theorem pbb_len {pool : Nat → Nat} {A : Nat → (Nat → Nat) × Nat} {bo : Nat} : ∀ {n : Nat} {P : List Nat}, (pbb pool A bo n P).length = P.length + bl pool A bo n
  | 0, P => rfl
  | n + 1, P => by
    show (pbb pool A bo n (bp A (pool (bo + n)) P)).length = P.length + (bl pool A bo n + bw A (pool (bo + n)))
    rw [pbb_len, bp_len]
    omega
theorem m1_lt {a : Nat} (h : a < 2 ^ 31) : nI a + (-1) < nI a := by
  cases a with
  | zero => decide
  | succ z =>
    rw [pk_m1]
    exact nI_lt (by omega) h
theorem m1_eq (x : Int32) : x - 1 = x + (-1) := Int32.sub_eq_add_neg x 1
section MJBD
variable {X : mj_X} {d nc ns : Nat} {Q : mj_Q} {I I' J J' H : Nat → Nat → Int32} {Lg : Nat → Nat → Int64} {Rf : Nat → Nat → Option Nat} {fb : Nat → Nat → Int32} {vb : Nat → Int32} {K : Nat × Nat × Nat} {P : List Nat} {E : sgE} {N : sgN} {S : sgS} {M : sgM} {C : sgC} {O : sgO} {L L' : sgL} {t n bg fi a b s bo e kt k : Nat} {A : Nat → (Nat → Nat) × Nat} {f : Nat → Nat} {len many first dp : Nat}
theorem bl_le (hA : ∀ q, q < kt → (A q).2 ≤ 14100) (hp : ∀ i, bo ≤ i → i < bo + n → 2097152 ≤ M.1 i → M.1 i - 2097153 < kt) : bl M.1 A bo n ≤ 14100 * n := by
  induction n with
  | zero => exact Nat.zero_le _
  | succ n ih =>
    have h1 := ih (fun i h1 h2 => hp i h1 (by omega))
    have h2 : bw A (M.1 (bo + n)) ≤ 14100 := by
      unfold bw
      split
      · rename_i hh
        exact hA _ (hp (bo + n) (by omega) (by omega) hh)
      · decide
    show bl M.1 A bo n + bw A (M.1 (bo + n)) ≤ _
    omega
/-- putArgument -/
theorem cq_16 (hR : mj_Rt mp_R Rf) (hA : caA kt A fi fb) (hfi : fi ≤ 14100) (hk : k < kt) (hk9 : kt ≤ 9) (h : RC fb vb (K, P, E, N, S, M, C, O, L) I) (hl : P.length + (A k).2 < 10100) (hQ : ∀ I', RC fb vb (K, pba (A k).1 (A k).2 P, E, N, S, M, C, O, L) I' → Q (.inl none) (sh59, I', Lg, Rf, nc, ns)) : mj_call X mj_P (mj_bi X) (d + 2) 16 [.ref 30, .int (nI (k + 1))] (sh59, I, Lg, Rf, nc, ns) Q := by
  have hr := mc_rf hR
  have ek : (nI (k + 1)).toNatClampNeg = k + 1 := nI_clamp (by omega)
  obtain ⟨f0, a1, a2, a3, a4⟩ := hA.2 k hk
  have lp : ∀ (n : Nat) (P : List Nat) (I : Nat → Nat → Int32), n ≤ (A k).2 → P.length + n < 10100 → RC fb vb (K, P, E, N, S, M, C, O, L) I → (∀ I', RC fb vb (K, pba (A k).1 n P, E, N, S, M, C, O, L) I' → Q (.inl none) (sh59, I', Lg, Rf, nc, ns)) → mj_rn X (mj_hd []) (mj_call X mj_P (mj_bi X) (d + 1)) mb_16 9 [some (.ref 30), some (.int (nI (k + 1))), some (.int (nI (f0 + n) + (-1)))] [] (sh59, I, Lg, Rf, nc, ns) Q := by
    intro n
    induction n with
    | zero =>
      intro P I hn hl h hQ
      have i32 : I 32 (k + 1) = nI f0 := ((rc_fb h _).2.2.1).trans a1
      refine mj_blk rfl ?_
      simp +decide only [mjs_0, mjs_1, mjs_2, mjs_3, mjs_ble, true_and, Bool.false_eq_true, if_false, if_true, Nat.reduceAdd, Nat.reduceSub, Nat.reduceLeDiff, false_implies, true_implies, not_false_eq_true, not_true_eq_false, and_true, mc_sh, hr, mjs_up_at, mjs_up_c, mjs_up_f, ek, i32]
      refine ⟨nI_in (by omega) (by decide), fun _ => mj_blk rfl ?_, fun q => absurd (m1_lt (a := f0 + 0) (by omega)) q⟩
      simp +decide only [mjs_0, mjs_1, mjs_2, mjs_3, mjs_ble, true_and, Bool.false_eq_true, if_false, if_true, Nat.reduceAdd, Nat.reduceSub, Nat.reduceLeDiff, false_implies, true_implies, not_false_eq_true, not_true_eq_false, and_true]
      exact hQ I h
    | succ n ih =>
      intro P I hn hl h hQ
      have i32 : I 32 (k + 1) = nI f0 := ((rc_fb h _).2.2.1).trans a1
      have i31 : I 31 (f0 + n) = nI ((A k).1 n) := ((rc_fb h _).2.1).trans (a4 n (by omega))
      have en : (nI (f0 + n)).toNatClampNeg = f0 + n := nI_clamp (by omega)
      have em : nI (f0 + (n + 1)) + (-1) = nI (f0 + n) := pk_m1 (f0 + n)
      refine mj_blk rfl ?_
      simp +decide only [mjs_0, mjs_1, mjs_2, mjs_3, mjs_ble, true_and, Bool.false_eq_true, if_false, if_true, Nat.reduceAdd, Nat.reduceSub, Nat.reduceLeDiff, false_implies, true_implies, not_false_eq_true, not_true_eq_false, and_true, mc_sh, hr, mjs_up_at, mjs_up_c, mjs_up_f, ek, i32, em]
      refine ⟨nI_in (by omega) (by decide), fun q => absurd q (nI_nlt (a := f0 + n) (b := f0) (by omega) (by omega)), fun _ => mj_blk rfl ?_⟩
      simp +decide only [mjs_0, mjs_1, mjs_2, mjs_3, mjs_ble, true_and, Bool.false_eq_true, if_false, if_true, Nat.reduceAdd, Nat.reduceSub, Nat.reduceLeDiff, false_implies, true_implies, not_false_eq_true, not_true_eq_false, and_true, mc_sh, hr, mjs_up_at, mjs_up_c, mjs_up_f, en, i31]
      refine ⟨nI_in (by omega) (by decide), ?_⟩
      refine cq_84 hR h (by omega) (fun I1 c1 _ => ?_)
      simp +decide only [mjs_0, mjs_1, mjs_2, mjs_3, mjs_ble, true_and, Bool.false_eq_true, if_false, if_true, Nat.reduceAdd, Nat.reduceSub, Nat.reduceLeDiff, false_implies, true_implies, not_false_eq_true, not_true_eq_false, and_true]
      exact mj_nv (ih ((A k).1 n :: P) I1 (by omega) (by rw [List.length_cons]; omega) c1 hQ)
  have i33 : I 33 (k + 1) = nI (f0 + (A k).2) := ((rc_fb h _).2.2.2).trans a2
  refine mj_enter (z := (3, [], mb_16)) (by decide) rfl rfl ?_
  refine mj_blk rfl ?_
  simp +decide only [mjs_0, mjs_1, mjs_2, mjs_3, mjs_ble, true_and, Bool.false_eq_true, if_false, if_true, Nat.reduceAdd, Nat.reduceSub, Nat.reduceLeDiff, false_implies, true_implies, not_false_eq_true, not_true_eq_false, and_true, mc_sh, hr, mjs_up_at, mjs_up_c, mjs_up_f, ek, i33, m1_eq]
  exact ⟨nI_in (by omega) (by decide), mj_nv (lp (A k).2 P I (Nat.le_refl _) hl h hQ)⟩
/-- putBody -/
theorem cq_15 (hR : mj_Rt mp_R Rf) (hv : gv (K, P, E, N, S, M, C, O, L)) (h : RC fb vb (K, P, E, N, S, M, C, O, L) I) (hr' : nc + 1 ≤ X.2.2.1 ∧ ns + 6 ≤ X.2.2.2) (ha : a < M.2.2.2.2.1) (hp : P.length ≤ 10000) (hkt : kt = np M.1 (M.2.1 a) (M.2.2.1 a - M.2.1 a)) (hA : caA kt A fi fb) (hfi : fi ≤ 14100)
    (hQ1 : P.length + bl M.1 A (M.2.2.1 a) (M.2.1 (a + 1) - M.2.2.1 a) ≤ 10000 → ∀ I', RC fb vb (K, pbb M.1 A (M.2.2.1 a) (M.2.1 (a + 1) - M.2.2.1 a) P, E, N, S, M, C, O, L) I' → Q (.inl none) (sh59, I', Lg, Rf, nc, ns))
    (hQ3 : 10000 < P.length + bl M.1 A (M.2.2.1 a) (M.2.1 (a + 1) - M.2.2.1 a) → ∀ I', RCf fb vb (K, P, E, N, S, M, C, O, L) I' → Q (.inr 500) (sh59, I', Lg, Rf, nc + 1, ns + 6)) :
    mj_call X mj_P (mj_bi X) (d + 3) 15 [.ref 30, .int (nI a)] (sh59, I, Lg, Rf, nc, ns) Q := by
  have hr := mc_rf hR
  have gM := (gv_d hv).2.2.2.2.1
  obtain ⟨m1, m2, m3, m4, m5, m6, m7⟩ := gM.2.1 a ha
  rw [← hkt] at m5 m6
  have hu2 : M.2.2.2.1 ≤ 10000 := gM.2.2.1.2.1
  have hmade := gvM_made gM
  have hk : N.2.2 ≤ 1036 := (gv_d hv).2.2.1.2.1
  have hC := (rc_d h).2.2.2.2.2.1
  have c24 : I 24 a = nI (M.2.2.1 a) := hC.2.2.2.2 a (by omega)
  have c23 : I 23 (a + 1) = nI (M.2.1 (a + 1)) := hC.2.2.2.1 (a + 1) (by omega)
  have hwa : ∀ q, q < kt → (A q).2 ≤ 14100 := fun q hq => by
    obtain ⟨f0, a1, a2, a3, a4⟩ := hA.2 q hq
    omega
  have hpk : ∀ i, M.2.2.1 a ≤ i → i < M.2.1 (a + 1) → 2097152 ≤ M.1 i → 2097153 ≤ M.1 i ∧ M.1 i - 2097153 < kt := fun i h1 h2 h3 => by
    have := m6 i h1 h2 h3
    rcases gM.2.2.2 i (by omega) with hh | hh
    · have := tb_lt hk hh
      omega
    · omega
  generalize hbo : M.2.2.1 a = bo at *
  generalize hee : M.2.1 (a + 1) = e at *
  -- the second loop: tokens put
  have lp2 : ∀ (n : Nat) (P : List Nat) (I : Nat → Nat → Int32), bo + n ≤ e → P.length + bl M.1 A bo n ≤ 10000 → RC fb vb (K, P, E, N, S, M, C, O, L) I → (∀ I', RC fb vb (K, pbb M.1 A bo n P, E, N, S, M, C, O, L) I' → Q (.inl none) (sh59, I', Lg, Rf, nc, ns)) → mj_rn X (mj_hd []) (mj_call X mj_P (mj_bi X) (d + 2)) mb_15 116 [some (.ref 30), none, some (.int (nI bo)), none, none, some (.int (nI (bo + n) + (-1))), none] [] (sh59, I, Lg, Rf, nc, ns) Q := by
    intro n
    induction n with
    | zero =>
      intro P I hn hl h hQ
      refine mj_blk rfl ?_
      simp +decide only [mjs_0, mjs_1, mjs_2, mjs_3, mjs_ble, true_and, Bool.false_eq_true, if_false, if_true, Nat.reduceAdd, Nat.reduceSub, Nat.reduceLeDiff, false_implies, true_implies, not_false_eq_true, not_true_eq_false, and_true]
      refine ⟨fun _ => mj_blk rfl ?_, fun q => absurd (m1_lt (a := bo + 0) (by omega)) q⟩
      simp +decide only [mjs_0, mjs_1, mjs_2, mjs_3, mjs_ble, true_and, Bool.false_eq_true, if_false, if_true, Nat.reduceAdd, Nat.reduceSub, Nat.reduceLeDiff, false_implies, true_implies, not_false_eq_true, not_true_eq_false, and_true]
      exact hQ I h
    | succ n ih =>
      intro P I hn hl h hQ
      have hpi : pv N.2.2 (M.1 (bo + n)) := gM.2.2.2 (bo + n) (by omega)
      have plt := pv_lt hk hpi
      have ppl := pv_pl hk hpi
      have en : (nI (bo + n)).toNatClampNeg = bo + n := nI_clamp (by omega)
      have em : nI (bo + (n + 1)) + (-1) = nI (bo + n) := pk_m1 (bo + n)
      have i22 : I 22 (bo + n) = nI (M.1 (bo + n)) := (rc_d h).2.2.2.2.2.1.2.2.1 _ (by omega)
      have hl' : P.length + (bl M.1 A bo n + bw A (M.1 (bo + n))) ≤ 10000 := hl
      have fin : ∀ I1, RC fb vb (K, bp A (M.1 (bo + n)) P, E, N, S, M, C, O, L) I1 → mj_rn X (mj_hd []) (mj_call X mj_P (mj_bi X) (d + 2)) mb_15 163 [some (.ref 30), none, some (.int (nI bo)), none, none, some (.int (nI (bo + n))), none] [] (sh59, I1, Lg, Rf, nc, ns) Q := by
        intro I1 c1
        refine mj_blk rfl ?_
        simp +decide only [mjs_0, mjs_1, mjs_2, mjs_3, mjs_ble, true_and, Bool.false_eq_true, if_false, if_true, Nat.reduceAdd, Nat.reduceSub, Nat.reduceLeDiff, false_implies, true_implies, not_false_eq_true, not_true_eq_false, and_true]
        exact mj_nv (ih _ I1 (by omega) (by rw [bp_len]; omega) c1 hQ)
      refine mj_blk rfl ?_
      simp +decide only [mjs_0, mjs_1, mjs_2, mjs_3, mjs_ble, true_and, Bool.false_eq_true, if_false, if_true, Nat.reduceAdd, Nat.reduceSub, Nat.reduceLeDiff, false_implies, true_implies, not_false_eq_true, not_true_eq_false, and_true, em]
      refine ⟨fun q => absurd q (nI_nlt (a := bo + n) (b := bo) (by omega) (by omega)), fun _ => mj_blk rfl ?_⟩
      simp +decide only [mjs_0, mjs_1, mjs_2, mjs_3, mjs_ble, true_and, Bool.false_eq_true, if_false, if_true, Nat.reduceAdd, Nat.reduceSub, Nat.reduceLeDiff, false_implies, true_implies, not_false_eq_true, not_true_eq_false, and_true, mc_sh, hr, mjs_up_at, mjs_up_c, mjs_up_f, en, i22]
      refine ⟨nI_in (by omega) (by decide), ?_⟩
      refine c_185 (by omega) ?_
      by_cases ep : 2097152 ≤ M.1 (bo + n)
      · rw [if_pos (ppl.1.mpr ep)]
        obtain ⟨q1, q2⟩ := hpk (bo + n) (by omega) (by omega) ep
        obtain ⟨k, hkk⟩ : ∃ k, M.1 (bo + n) = 2097153 + k := ⟨M.1 (bo + n) - 2097153, by omega⟩
        have ek : M.1 (bo + n) - 2097153 = k := by omega
        have e15 : nI (M.1 (bo + n)) &&& 15 = nI (k + 1) := by
          rw [hkk, bt_15]
          exact congrArg nI (by omega)
        have hbw : bw A (M.1 (bo + n)) = (A k).2 := by
          unfold bw
          rw [if_pos ep, ek]
        have hbp : bp A (M.1 (bo + n)) P = pba (A k).1 (A k).2 P := by
          unfold bp
          rw [if_pos ep, ek]
        simp +decide only [mjs_0, mjs_1, mjs_2, mjs_3, mjs_ble, true_and, Bool.false_eq_true, if_false, if_true, Nat.reduceAdd, Nat.reduceSub, Nat.reduceLeDiff, false_implies, true_implies, not_false_eq_true, not_true_eq_false, and_true]
        refine mj_blk rfl ?_
        simp +decide only [mjs_0, mjs_1, mjs_2, mjs_3, mjs_ble, true_and, Bool.false_eq_true, if_false, if_true, Nat.reduceAdd, Nat.reduceSub, Nat.reduceLeDiff, false_implies, true_implies, not_false_eq_true, not_true_eq_false, and_true, mc_sh, e15]
        refine cq_16 hR hA hfi (by omega) m5 h (by omega) (fun I1 c1 => ?_)
        simp +decide only [mjs_0, mjs_1, mjs_2, mjs_3, mjs_ble, true_and, Bool.false_eq_true, if_false, if_true, Nat.reduceAdd, Nat.reduceSub, Nat.reduceLeDiff, false_implies, true_implies, not_false_eq_true, not_true_eq_false, and_true]
        exact mj_nv (fin I1 (by rw [hbp]; exact c1))
      · rw [if_neg (fun hx => ep (ppl.1.mp hx))]
        have hbp : bp A (M.1 (bo + n)) P = M.1 (bo + n) :: P := by
          unfold bp
          rw [if_neg ep]
        simp +decide only [mjs_0, mjs_1, mjs_2, mjs_3, mjs_ble, true_and, Bool.false_eq_true, if_false, if_true, Nat.reduceAdd, Nat.reduceSub, Nat.reduceLeDiff, false_implies, true_implies, not_false_eq_true, not_true_eq_false, and_true]
        refine mj_blk rfl ?_
        simp +decide only [mjs_0, mjs_1, mjs_2, mjs_3, mjs_ble, true_and, Bool.false_eq_true, if_false, if_true, Nat.reduceAdd, Nat.reduceSub, Nat.reduceLeDiff, false_implies, true_implies, not_false_eq_true, not_true_eq_false, and_true, mc_sh, hr, mjs_up_at, mjs_up_c, mjs_up_f]
        refine cq_84 hR h (by omega) (fun I1 c1 _ => ?_)
        simp +decide only [mjs_0, mjs_1, mjs_2, mjs_3, mjs_ble, true_and, Bool.false_eq_true, if_false, if_true, Nat.reduceAdd, Nat.reduceSub, Nat.reduceLeDiff, false_implies, true_implies, not_false_eq_true, not_true_eq_false, and_true]
        exact mj_nv (fin I1 (by rw [hbp]; exact c1))
  -- the first loop: how many
  have lp1 : ∀ (m n : Nat), bo + n + m = e → mj_rn X (mj_hd []) (mj_call X mj_P (mj_bi X) (d + 2)) mb_15 24 [some (.ref 30), none, some (.int (nI bo)), some (.int (nI e)), some (.int (nI (bl M.1 A bo n))), some (.int (nI (bo + n))), none] [] (sh59, I, Lg, Rf, nc, ns) Q := by
    intro m
    induction m with
    | zero =>
      intro n hn
      have hb1 := bl_le (M := M) (A := A) (bo := bo) (n := n) hwa (fun i h1 h2 h3 => (hpk i h1 (by omega) h3).2)
      have i8 : I 17 8 = nI P.length := (rc_d h).2.1.1
      have en : e - bo = n := by omega
      rw [en] at hQ1 hQ3
      refine mj_blk rfl ?_
      simp +decide only [mjs_0, mjs_1, mjs_2, mjs_3, mjs_ble, true_and, Bool.false_eq_true, if_false, if_true, Nat.reduceAdd, Nat.reduceSub, Nat.reduceLeDiff, false_implies, true_implies, not_false_eq_true, not_true_eq_false, and_true]
      refine ⟨fun _ => mj_blk rfl ?_, fun q => absurd (nI_le (a := e) (b := bo + n) (by omega) (by omega)) q⟩
      simp +decide only [mjs_0, mjs_1, mjs_2, mjs_3, mjs_ble, true_and, Bool.false_eq_true, if_false, if_true, Nat.reduceAdd, Nat.reduceSub, Nat.reduceLeDiff, false_implies, true_implies, not_false_eq_true, not_true_eq_false, and_true, mc_sh, hr, mjs_up_at, mjs_up_c, mjs_up_f, i8, nI_add]
      by_cases hle : P.length + bl M.1 A bo n ≤ 10000
      · refine ⟨fun _ => mj_blk rfl ?_, fun q => absurd (nI_le (a := P.length + bl M.1 A bo n) (b := 10000) hle (by decide)) q⟩
        simp +decide only [mjs_0, mjs_1, mjs_2, mjs_3, mjs_ble, true_and, Bool.false_eq_true, if_false, if_true, Nat.reduceAdd, Nat.reduceSub, Nat.reduceLeDiff, false_implies, true_implies, not_false_eq_true, not_true_eq_false, and_true, m1_eq]
        rw [show e = bo + n by omega]
        exact mj_nv (lp2 n P I (by omega) hle h (hQ1 hle))
      · refine ⟨fun q => absurd q (nI_ge (a := 10000) (b := P.length + bl M.1 A bo n) (by omega) (by omega)), fun _ => mj_blk rfl ?_⟩
        simp +decide only [mjs_0, mjs_1, mjs_2, mjs_3, mjs_ble, true_and, Bool.false_eq_true, if_false, if_true, Nat.reduceAdd, Nat.reduceSub, Nat.reduceLeDiff, false_implies, true_implies, not_false_eq_true, not_true_eq_false, and_true, mc_sh, hr, mjs_up_at, mjs_up_c, mjs_up_f]
        refine c_80 s59_1 hr' ?_
        simp +decide only [mjs_0, mjs_1, mjs_2, mjs_3, mjs_ble, true_and, Bool.false_eq_true, if_false, if_true, Nat.reduceAdd, Nat.reduceSub, Nat.reduceLeDiff, false_implies, true_implies, not_false_eq_true, not_true_eq_false, and_true]
        exact hQ3 (by omega) _ (rc_f hv h)
    | succ m ih =>
      intro n hn
      have hpi : pv N.2.2 (M.1 (bo + n)) := gM.2.2.2 (bo + n) (by omega)
      have plt := pv_lt hk hpi
      have ppl := pv_pl hk hpi
      have en : (nI (bo + n)).toNatClampNeg = bo + n := nI_clamp (by omega)
      have i22 : I 22 (bo + n) = nI (M.1 (bo + n)) := (rc_d h).2.2.2.2.2.1.2.2.1 _ (by omega)
      have fin : mj_rn X (mj_hd []) (mj_call X mj_P (mj_bi X) (d + 2)) mb_15 77 [some (.ref 30), none, some (.int (nI bo)), some (.int (nI e)), none, some (.int (nI (bo + n))), none] [.int (nI (bw A (M.1 (bo + n)))), .int (nI (bl M.1 A bo n))] (sh59, I, Lg, Rf, nc, ns) Q := by
        refine mj_blk rfl ?_
        simp +decide only [mjs_0, mjs_1, mjs_2, mjs_3, mjs_ble, true_and, Bool.false_eq_true, if_false, if_true, Nat.reduceAdd, Nat.reduceSub, Nat.reduceLeDiff, false_implies, true_implies, not_false_eq_true, not_true_eq_false, and_true, nI_add, nI_1]
        exact mj_nv (ih (n + 1) (by omega))
      refine mj_blk rfl ?_
      simp +decide only [mjs_0, mjs_1, mjs_2, mjs_3, mjs_ble, true_and, Bool.false_eq_true, if_false, if_true, Nat.reduceAdd, Nat.reduceSub, Nat.reduceLeDiff, false_implies, true_implies, not_false_eq_true, not_true_eq_false, and_true]
      refine ⟨fun q => absurd q (nI_ge (a := bo + n) (b := e) (by omega) (by omega)), fun _ => mj_blk rfl ?_⟩
      simp +decide only [mjs_0, mjs_1, mjs_2, mjs_3, mjs_ble, true_and, Bool.false_eq_true, if_false, if_true, Nat.reduceAdd, Nat.reduceSub, Nat.reduceLeDiff, false_implies, true_implies, not_false_eq_true, not_true_eq_false, and_true, mc_sh, hr, mjs_up_at, mjs_up_c, mjs_up_f, en, i22]
      refine ⟨nI_in (by omega) (by decide), ?_⟩
      refine c_185 (by omega) ?_
      by_cases ep : 2097152 ≤ M.1 (bo + n)
      · rw [if_pos (ppl.1.mpr ep)]
        obtain ⟨q1, q2⟩ := hpk (bo + n) (by omega) (by omega) ep
        obtain ⟨k, hkk⟩ : ∃ k, M.1 (bo + n) = 2097153 + k := ⟨M.1 (bo + n) - 2097153, by omega⟩
        have e15 : nI (M.1 (bo + n)) &&& 15 = nI (k + 1) := by
          rw [hkk, bt_15]
          exact congrArg nI (by omega)
        have ek : (nI (k + 1)).toNatClampNeg = k + 1 := nI_clamp (by omega)
        have hbw : bw A (M.1 (bo + n)) = (A k).2 := by
          unfold bw
          rw [if_pos ep, show M.1 (bo + n) - 2097153 = k by omega]
        obtain ⟨f0, a1, a2, a3, a4⟩ := hA.2 k (by omega)
        have i33 : I 33 (k + 1) = nI (f0 + (A k).2) := ((rc_fb h _).2.2.2).trans a2
        have i32 : I 32 (k + 1) = nI f0 := ((rc_fb h _).2.2.1).trans a1
        have esub : nI (f0 + (A k).2) - nI f0 = nI (A k).2 := by
          rw [pk_sub (by omega), Nat.add_sub_cancel_left]
        rw [hbw] at fin
        simp +decide only [mjs_0, mjs_1, mjs_2, mjs_3, mjs_ble, true_and, Bool.false_eq_true, if_false, if_true, Nat.reduceAdd, Nat.reduceSub, Nat.reduceLeDiff, false_implies, true_implies, not_false_eq_true, not_true_eq_false, and_true]
        refine mj_blk rfl ?_
        simp +decide only [mjs_0, mjs_1, mjs_2, mjs_3, mjs_ble, true_and, Bool.false_eq_true, if_false, if_true, Nat.reduceAdd, Nat.reduceSub, Nat.reduceLeDiff, false_implies, true_implies, not_false_eq_true, not_true_eq_false, and_true, mc_sh, hr, mjs_up_at, mjs_up_c, mjs_up_f, e15, ek, i33, i32, esub]
        exact ⟨nI_in (by omega) (by decide), nI_in (by omega) (by decide), mj_nv fin⟩
      · rw [if_neg (fun hx => ep (ppl.1.mp hx))]
        have hbw : bw A (M.1 (bo + n)) = 1 := by
          unfold bw
          rw [if_neg ep]
        rw [hbw] at fin
        simp +decide only [mjs_0, mjs_1, mjs_2, mjs_3, mjs_ble, true_and, Bool.false_eq_true, if_false, if_true, Nat.reduceAdd, Nat.reduceSub, Nat.reduceLeDiff, false_implies, true_implies, not_false_eq_true, not_true_eq_false, and_true]
        refine mj_blk rfl ?_
        simp +decide only [mjs_0, mjs_1, mjs_2, mjs_3, mjs_ble, true_and, Bool.false_eq_true, if_false, if_true, Nat.reduceAdd, Nat.reduceSub, Nat.reduceLeDiff, false_implies, true_implies, not_false_eq_true, not_true_eq_false, and_true]
        exact mj_nv fin
  refine mj_enter (z := (7, [], mb_15)) (by decide) rfl rfl ?_
  refine mj_blk rfl ?_
  simp +decide only [mjs_0, mjs_1, mjs_2, mjs_3, mjs_ble, true_and, Bool.false_eq_true, if_false, if_true, Nat.reduceAdd, Nat.reduceSub, Nat.reduceLeDiff, false_implies, true_implies, not_false_eq_true, not_true_eq_false, and_true, mc_sh, hr, mjs_up_at, mjs_up_c, mjs_up_f]
  refine c_48 hR (by omega) ?_
  rw [c24]
  simp +decide only [mjs_0, mjs_1, mjs_2, mjs_3, mjs_ble, true_and, Bool.false_eq_true, if_false, if_true, Nat.reduceAdd, Nat.reduceSub, Nat.reduceLeDiff, false_implies, true_implies, not_false_eq_true, not_true_eq_false, and_true, mc_sh, hr, mjs_up_at, mjs_up_c, mjs_up_f]
  refine c_49 hR (by omega) ?_
  rw [c23]
  simp +decide only [mjs_0, mjs_1, mjs_2, mjs_3, mjs_ble, true_and, Bool.false_eq_true, if_false, if_true, Nat.reduceAdd, Nat.reduceSub, Nat.reduceLeDiff, false_implies, true_implies, not_false_eq_true, not_true_eq_false, and_true, mc_sh, hr, mjs_up_at, mjs_up_c, mjs_up_f]
  exact mj_nv (lp1 (e - bo) 0 (by omega))
/-- putOfBody -/
theorem rq_143 (hM' : mj_Rt mm_R Rf) (h : RR H (K, P, E, N, S, M, C, O, L) J) (ht : rt t < 2 ^ 31) (hp : P.length ≤ 10001) (hQ1 : P.length ≤ 10000 → ∀ J', RR H (K, t :: P, E, N, S, M, C, O, L) J' → Q (.inl none) (sh59, J', Lg, Rf, nc, ns)) (hQ0 : P.length = 10001 → ∀ J', RD H (K, P, E, N, S, M, C, O, L) J' → Q (.inl none) (sh59, J', Lg, Rf, nc, ns)) : mj_call X mj_P (mj_bi X) (d + 2) 143 [.ref 36, .int (nI (rt t))] (sh59, J, Lg, Rf, nc, ns) Q := by
  have hm := mm_rf hM'
  have j29 : J 36 29 = nI P.length := (rr_d h).2.1.1
  refine mj_enter (z := (2, [], mb_143)) (by decide) rfl rfl ?_
  refine mj_blk rfl ?_
  simp +decide only [mjs_0, mjs_1, mjs_2, mjs_3, mjs_ble, true_and, Bool.false_eq_true, if_false, if_true, Nat.reduceAdd, Nat.reduceSub, Nat.reduceLeDiff, false_implies, true_implies, not_false_eq_true, not_true_eq_false, and_true, mm_sh, hm, mjs_up_at, mjs_up_c, mjs_up_f, j29]
  by_cases hle : P.length ≤ 10000
  · refine ⟨fun _ => mj_blk rfl ?_, fun q => absurd (nI_le (a := P.length) (b := 10000) hle (by decide)) q⟩
    simp +decide only [mjs_0, mjs_1, mjs_2, mjs_3, mjs_ble, true_and, Bool.false_eq_true, if_false, if_true, Nat.reduceAdd, Nat.reduceSub, Nat.reduceLeDiff, false_implies, true_implies, not_false_eq_true, not_true_eq_false, and_true, mm_sh, hm, mjs_up_at, mjs_up_c, mjs_up_f]
    refine rq_118 hM' h ht (by omega) (fun J' c1 => ?_)
    simp +decide only [mjs_0, mjs_1, mjs_2, mjs_3, mjs_ble, true_and, Bool.false_eq_true, if_false, if_true, Nat.reduceAdd, Nat.reduceSub, Nat.reduceLeDiff, false_implies, true_implies, not_false_eq_true, not_true_eq_false, and_true]
    exact hQ1 hle J' c1
  · have hJ := rr_f (f := 2) (by decide) (by decide) h
    refine ⟨fun q => absurd q (nI_ge (a := 10000) (b := P.length) (by omega) (by omega)), fun _ => mj_blk rfl ?_⟩
    simp +decide only [mjs_0, mjs_1, mjs_2, mjs_3, mjs_ble, true_and, Bool.false_eq_true, if_false, if_true, Nat.reduceAdd, Nat.reduceSub, Nat.reduceLeDiff, false_implies, true_implies, not_false_eq_true, not_true_eq_false, and_true, mm_sh, hm, mjs_up_at, mjs_up_c, mjs_up_f]
    refine c_106 s59_36 ?_
    rw [if_pos (rr_d h).1.2.2.2]
    simp +decide only [mjs_0, mjs_1, mjs_2, mjs_3, mjs_ble, true_and, Bool.false_eq_true, if_false, if_true, Nat.reduceAdd, Nat.reduceSub, Nat.reduceLeDiff, false_implies, true_implies, not_false_eq_true, not_true_eq_false, and_true, mm_sh, hm, mjs_up_at, mjs_up_c, mjs_up_f]
    refine mj_blk rfl ?_
    simp +decide only [mjs_0, mjs_1, mjs_2, mjs_3, mjs_ble, true_and, Bool.false_eq_true, if_false, if_true, Nat.reduceAdd, Nat.reduceSub, Nat.reduceLeDiff, false_implies, true_implies, not_false_eq_true, not_true_eq_false, and_true, mm_sh, hm, mjs_up_at, mjs_up_c, mjs_up_f]
    refine f_118 s59_36 (rd_ne hJ) ?_
    simp +decide only [mjs_0, mjs_1, mjs_2, mjs_3, mjs_ble, true_and, Bool.false_eq_true, if_false, if_true, Nat.reduceAdd, Nat.reduceSub, Nat.reduceLeDiff, false_implies, true_implies, not_false_eq_true, not_true_eq_false, and_true]
    exact hQ0 (by omega) _ hJ
/-- an argument put by the reference -/
theorem r_142a (hM' : mj_Rt mm_R Rf) (hk : k < 9) {w3 : Option Value} (hA : ∀ i, i < len → H 54 (11000 * k + i) = nI (rt (f i)) ∧ rt (f i) < 2 ^ 31) (hl : len ≤ 10000) : ∀ (n : Nat) (P : List Nat) (J : Nat → Nat → Int32), n ≤ len → P.length ≤ 10001 → RR H (K, P, E, N, S, M, C, O, L) J → ((pba f n P).length ≤ 10001 → ∀ J', RR H (K, pba f n P, E, N, S, M, C, O, L) J' → mj_rn X (mj_hd []) (mj_call X mj_P (mj_bi X) (d + 7)) mb_142 276 [some (.ref 36), some (.int (nI b)), none, w3, none, none] [] (sh59, J', Lg, Rf, nc, ns) Q) → (10001 < (pba f n P).length → ∀ J', RD H (K, P, E, N, S, M, C, O, L) J' → mj_rn X (mj_hd []) (mj_call X mj_P (mj_bi X) (d + 7)) mb_142 276 [some (.ref 36), some (.int (nI b)), none, w3, none, none] [] (sh59, J', Lg, Rf, nc, ns) Q) → mj_rn X (mj_hd []) (mj_call X mj_P (mj_bi X) (d + 7)) mb_142 240 [some (.ref 36), some (.int (nI b)), none, w3, some (.int (nI k)), some (.int (nI n + (-1)))] [] (sh59, J, Lg, Rf, nc, ns) Q := by
  have hm := mm_rf hM'
  intro n
  induction n with
  | zero =>
    intro P J hn hp hJ hq1 hq0
    refine mj_blk rfl ?_
    simp +decide only [mjs_0, mjs_1, mjs_2, mjs_3, mjs_ble, true_and, Bool.false_eq_true, if_false, if_true, Nat.reduceAdd, Nat.reduceSub, Nat.reduceLeDiff, false_implies, true_implies, not_false_eq_true, not_true_eq_false, and_true]
    exact mj_nv (hq1 hp J hJ)
  | succ n ih =>
    intro P J hn hp hJ hq1 hq0
    have e1 : (11000 : Int32) * nI k = nI (11000 * k) := pk_mul 11000 k
    have e2 : (nI (11000 * k + n)).toNatClampNeg = 11000 * k + n := nI_clamp (by omega)
    have t1 : J 54 (11000 * k + n) = nI (rt (f n)) := (congrFun ((rr_d hJ).2.2.2.2.2.2.2.2.2 54 (by omega)) _).trans (hA n (by omega)).1
    refine mj_blk rfl ?_
    simp +decide only [mjs_0, mjs_1, mjs_2, mjs_3, mjs_ble, true_and, Bool.false_eq_true, if_false, if_true, Nat.reduceAdd, Nat.reduceSub, Nat.reduceLeDiff, false_implies, true_implies, not_false_eq_true, not_true_eq_false, and_true, pk_m1]
    refine ⟨fun q => absurd q (nI_pos (n := n) (by omega)), fun _ => mj_blk rfl ?_⟩
    simp +decide only [mjs_0, mjs_1, mjs_2, mjs_3, mjs_ble, true_and, Bool.false_eq_true, if_false, if_true, Nat.reduceAdd, Nat.reduceSub, Nat.reduceLeDiff, false_implies, true_implies, not_false_eq_true, not_true_eq_false, and_true, mm_sh, hm, mjs_up_at, mjs_up_c, mjs_up_f, (rr_d hJ).1.2.2.2]
    refine mj_blk rfl ?_
    simp +decide only [mjs_0, mjs_1, mjs_2, mjs_3, mjs_ble, true_and, Bool.false_eq_true, if_false, if_true, Nat.reduceAdd, Nat.reduceSub, Nat.reduceLeDiff, false_implies, true_implies, not_false_eq_true, not_true_eq_false, and_true, mm_sh, hm, mjs_up_at, mjs_up_c, mjs_up_f, e1, nI_add, e2, t1]
    refine ⟨nI_in (by omega) (by decide), ?_⟩
    refine rq_143 hM' hJ (hA n (by omega)).2 hp (fun hle J' c1 => ?_) (fun hle J' c1 => ?_)
    · simp +decide only [mjs_0, mjs_1, mjs_2, mjs_3, mjs_ble, true_and, Bool.false_eq_true, if_false, if_true, Nat.reduceAdd, Nat.reduceSub, Nat.reduceLeDiff, false_implies, true_implies, not_false_eq_true, not_true_eq_false, and_true]
      exact mj_nv (ih (f n :: P) J' (by omega) (by rw [List.length_cons]; omega) c1 hq1 hq0)
    · have hq := hq0 (by rw [pba_len]; omega) J' c1
      simp +decide only [mjs_0, mjs_1, mjs_2, mjs_3, mjs_ble, true_and, Bool.false_eq_true, if_false, if_true, Nat.reduceAdd, Nat.reduceSub, Nat.reduceLeDiff, false_implies, true_implies, not_false_eq_true, not_true_eq_false, and_true]
      refine mj_blk rfl ?_
      simp +decide only [mjs_0, mjs_1, mjs_2, mjs_3, mjs_ble, true_and, Bool.false_eq_true, if_false, if_true, Nat.reduceAdd, Nat.reduceSub, Nat.reduceLeDiff, false_implies, true_implies, not_false_eq_true, not_true_eq_false, and_true, mm_sh, hm, mjs_up_at, mjs_up_c, mjs_up_f]
      refine ⟨fun _ => mj_nv hq, fun _ => mj_blk rfl ?_⟩
      simp +decide only [mjs_0, mjs_1, mjs_2, mjs_3, mjs_ble, true_and, Bool.false_eq_true, if_false, if_true, Nat.reduceAdd, Nat.reduceSub, Nat.reduceLeDiff, false_implies, true_implies, not_false_eq_true, not_true_eq_false, and_true, mm_sh, hm, mjs_up_at, mjs_up_c, mjs_up_f]
      exact ⟨fun _ => mj_nv hq, fun q => absurd (rd_ne c1) q⟩
/-- the body put by the reference -/
theorem r_142b (hM' : mj_Rt mm_R Rf) (hv : gv (K, P, E, N, S, M, C, O, L)) (hgA : gA N.2.2 kt A) (hmb : mcA s bo e kt b kt A H) (hk9 : kt ≤ 9) (he : e ≤ M.2.2.2.1) (hpk : ∀ i, bo ≤ i → i < e → 2097152 ≤ M.1 i → 2097153 ≤ M.1 i ∧ M.1 i - 2097153 < kt) : ∀ (n : Nat) (P : List Nat) (J : Nat → Nat → Int32), bo + n ≤ e → P.length ≤ 10001 → RR H (K, P, E, N, S, M, C, O, L) J → ((pbb M.1 A bo n P).length ≤ 10001 → ∀ J', RR H (K, pbb M.1 A bo n P, E, N, S, M, C, O, L) J' → Q (.inl none) (sh59, J', Lg, Rf, nc, ns)) → (10001 < (pbb M.1 A bo n P).length → ∀ J', RD H (K, P, E, N, S, M, C, O, L) J' → Q (.inl none) (sh59, J', Lg, Rf, nc, ns)) → mj_rn X (mj_hd []) (mj_call X mj_P (mj_bi X) (d + 7)) mb_142 173 [some (.ref 36), some (.int (nI b)), none, some (.int (nI (bo + n) + (-1))), none, none] [] (sh59, J, Lg, Rf, nc, ns) Q := by
  have hm := mm_rf hM'
  have hk : N.2.2 ≤ 1036 := (gv_d hv).2.2.1.2.1
  have hk1 : 36 ≤ N.2.2 := (gv_d hv).2.2.1.1
  have gM := (gv_d hv).2.2.2.2.1
  have hu2 : M.2.2.2.1 ≤ 10000 := gM.2.2.1.2.1
  have hb1 := hmb.1.1
  have eb : (nI b).toNatClampNeg = b := nI_clamp (by omega)
  intro n
  induction n with
  | zero =>
    intro P J hn hp hJ hq1 hq0
    have j50 : J 50 b = nI bo := (congrFun ((rr_d hJ).2.2.2.2.2.2.2.2.2 50 (by omega)) b).trans hmb.1.2.2.1
    refine mj_blk rfl ?_
    simp +decide only [mjs_0, mjs_1, mjs_2, mjs_3, mjs_ble, true_and, Bool.false_eq_true, if_false, if_true, Nat.reduceAdd, Nat.reduceSub, Nat.reduceLeDiff, false_implies, true_implies, not_false_eq_true, not_true_eq_false, and_true, mm_sh, hm, mjs_up_at, mjs_up_c, mjs_up_f, eb, j50]
    refine ⟨nI_in (by omega) (by decide), fun _ => mj_blk rfl ?_, fun q => absurd (m1_lt (a := bo + 0) (by omega)) q⟩
    simp +decide only [mjs_0, mjs_1, mjs_2, mjs_3, mjs_ble, true_and, Bool.false_eq_true, if_false, if_true, Nat.reduceAdd, Nat.reduceSub, Nat.reduceLeDiff, false_implies, true_implies, not_false_eq_true, not_true_eq_false, and_true]
    exact hq1 hp J hJ
  | succ n ih =>
    intro P J hn hp hJ hq1 hq0
    have j50 : J 50 b = nI bo := (congrFun ((rr_d hJ).2.2.2.2.2.2.2.2.2 50 (by omega)) b).trans hmb.1.2.2.1
    have hpi : pv N.2.2 (M.1 (bo + n)) := gM.2.2.2 (bo + n) (by omega)
    have prt := pv_rt hk hk1 hpi
    have en : (nI (bo + n)).toNatClampNeg = bo + n := nI_clamp (by omega)
    have em : nI (bo + (n + 1)) + (-1) = nI (bo + n) := pk_m1 (bo + n)
    have j52 : J 52 (bo + n) = nI (rt (M.1 (bo + n))) := (rr_d hJ).2.2.2.2.2.1.2.2 _ (by omega)
    -- behind the token
    have fin1 : (bp A (M.1 (bo + n)) P).length ≤ 10001 → ∀ J', RR H (K, bp A (M.1 (bo + n)) P, E, N, S, M, C, O, L) J' → mj_rn X (mj_hd []) (mj_call X mj_P (mj_bi X) (d + 7)) mb_142 276 [some (.ref 36), some (.int (nI b)), none, some (.int (nI (bo + n))), none, none] [] (sh59, J', Lg, Rf, nc, ns) Q := by
      intro hl J' c1
      refine mj_blk rfl ?_
      simp +decide only [mjs_0, mjs_1, mjs_2, mjs_3, mjs_ble, true_and, Bool.false_eq_true, if_false, if_true, Nat.reduceAdd, Nat.reduceSub, Nat.reduceLeDiff, false_implies, true_implies, not_false_eq_true, not_true_eq_false, and_true]
      exact mj_nv (ih _ J' (by omega) hl c1 hq1 hq0)
    have fin0 : 10001 < (bp A (M.1 (bo + n)) P).length → ∀ J', RD H (K, P, E, N, S, M, C, O, L) J' → mj_rn X (mj_hd []) (mj_call X mj_P (mj_bi X) (d + 7)) mb_142 276 [some (.ref 36), some (.int (nI b)), none, some (.int (nI (bo + n))), none, none] [] (sh59, J', Lg, Rf, nc, ns) Q := by
      intro hl J' c1
      have hq := hq0 (by
        show 10001 < (pbb M.1 A bo n (bp A (M.1 (bo + n)) P)).length
        rw [pbb_len]
        omega) J' c1
      have z282 : mj_rn X (mj_hd []) (mj_call X mj_P (mj_bi X) (d + 7)) mb_142 282 [some (.ref 36), some (.int (nI b)), none, none, none, none] [] (sh59, J', Lg, Rf, nc, ns) Q := by
        refine mj_blk rfl ?_
        simp +decide only [mjs_0, mjs_1, mjs_2, mjs_3, mjs_ble, true_and, Bool.false_eq_true, if_false, if_true, Nat.reduceAdd, Nat.reduceSub, Nat.reduceLeDiff, false_implies, true_implies, not_false_eq_true, not_true_eq_false, and_true]
        exact hq
      refine mj_blk rfl ?_
      simp +decide only [mjs_0, mjs_1, mjs_2, mjs_3, mjs_ble, true_and, Bool.false_eq_true, if_false, if_true, Nat.reduceAdd, Nat.reduceSub, Nat.reduceLeDiff, false_implies, true_implies, not_false_eq_true, not_true_eq_false, and_true]
      refine mj_blk rfl ?_
      simp +decide only [mjs_0, mjs_1, mjs_2, mjs_3, mjs_ble, true_and, Bool.false_eq_true, if_false, if_true, Nat.reduceAdd, Nat.reduceSub, Nat.reduceLeDiff, false_implies, true_implies, not_false_eq_true, not_true_eq_false, and_true, mm_sh, hm, mjs_up_at, mjs_up_c, mjs_up_f, eb]
      refine ⟨nI_in (by omega) (by decide), fun _ => mj_nv z282, fun _ => mj_blk rfl ?_⟩
      simp +decide only [mjs_0, mjs_1, mjs_2, mjs_3, mjs_ble, true_and, Bool.false_eq_true, if_false, if_true, Nat.reduceAdd, Nat.reduceSub, Nat.reduceLeDiff, false_implies, true_implies, not_false_eq_true, not_true_eq_false, and_true, mm_sh, hm, mjs_up_at, mjs_up_c, mjs_up_f]
      exact ⟨fun _ => mj_nv z282, fun q => absurd (rd_ne c1) q⟩
    refine mj_blk rfl ?_
    simp +decide only [mjs_0, mjs_1, mjs_2, mjs_3, mjs_ble, true_and, Bool.false_eq_true, if_false, if_true, Nat.reduceAdd, Nat.reduceSub, Nat.reduceLeDiff, false_implies, true_implies, not_false_eq_true, not_true_eq_false, and_true, mm_sh, hm, mjs_up_at, mjs_up_c, mjs_up_f, eb, j50, em]
    refine ⟨nI_in (by omega) (by decide), fun q => absurd q (nI_nlt (a := bo + n) (b := bo) (by omega) (by omega)), fun _ => mj_blk rfl ?_⟩
    simp +decide only [mjs_0, mjs_1, mjs_2, mjs_3, mjs_ble, true_and, Bool.false_eq_true, if_false, if_true, Nat.reduceAdd, Nat.reduceSub, Nat.reduceLeDiff, false_implies, true_implies, not_false_eq_true, not_true_eq_false, and_true, mm_sh, hm, mjs_up_at, mjs_up_c, mjs_up_f, (rr_d hJ).1.2.2.2]
    refine mj_blk rfl ?_
    simp +decide only [mjs_0, mjs_1, mjs_2, mjs_3, mjs_ble, true_and, Bool.false_eq_true, if_false, if_true, Nat.reduceAdd, Nat.reduceSub, Nat.reduceLeDiff, false_implies, true_implies, not_false_eq_true, not_true_eq_false, and_true, mm_sh, hm, mjs_up_at, mjs_up_c, mjs_up_f, en, j52]
    refine ⟨nI_in (by omega) (by decide), ?_⟩
    by_cases ep : 2097152 ≤ M.1 (bo + n)
    · obtain ⟨q1, q2⟩ := hpk (bo + n) (by omega) (by omega) ep
      obtain ⟨k, hkk⟩ : ∃ k, M.1 (bo + n) = 2097153 + k := ⟨M.1 (bo + n) - 2097153, by omega⟩
      have ek : M.1 (bo + n) - 2097153 = k := by omega
      have hkt : k < kt := by omega
      have hbp : bp A (M.1 (bo + n)) P = pba (A k).1 (A k).2 P := by
        unfold bp
        rw [if_pos ep, ek]
      have ert : nI (rt (M.1 (bo + n))) - 262144 + (-1) = nI k := by
        rw [← m1_eq, prt.2.1 ep, show 262144 + (M.1 (bo + n) - 2097152) = 262144 + (k + 1) by omega, show (262144 : Int32) = nI 262144 from rfl, pk_sub (by omega), Nat.add_sub_cancel_left, nI_pred]
      have ekc : (nI k).toNatClampNeg = k := nI_clamp (by omega)
      obtain ⟨r1, r2, r3⟩ := hmb.2 k hkt
      have j55 : J 55 k = nI (A k).2 := (congrFun ((rr_d hJ).2.2.2.2.2.2.2.2.2 55 (by omega)) _).trans r1
      refine ⟨fun _ => mj_blk rfl ?_, fun q => absurd (nI_le (a := 262144) (b := rt (M.1 (bo + n))) (prt.1.mpr ep) prt.2.2) q⟩
      simp +decide only [mjs_0, mjs_1, mjs_2, mjs_3, mjs_ble, true_and, Bool.false_eq_true, if_false, if_true, Nat.reduceAdd, Nat.reduceSub, Nat.reduceLeDiff, false_implies, true_implies, not_false_eq_true, not_true_eq_false, and_true, mm_sh, hm, mjs_up_at, mjs_up_c, mjs_up_f, en, j52, ert, ekc, j55, m1_eq]
      refine ⟨nI_in (by omega) (by decide), nI_in (by omega) (by decide), ?_⟩
      rw [hbp] at fin1 fin0
      exact mj_nv (r_142a (w3 := some (.int (nI (bo + n)))) hM' (by omega) (fun i hi => ⟨r3 i hi, by have := rt_lt hk hk1 (hgA k hkt i hi); omega⟩) r2 (A k).2 P J (Nat.le_refl _) hp hJ fin1 fin0)
    · have hbp : bp A (M.1 (bo + n)) P = M.1 (bo + n) :: P := by
        unfold bp
        rw [if_neg ep]
      rw [hbp] at fin1 fin0
      refine ⟨fun q => absurd ((nI_leI (a := 262144) (by decide) prt.2.2).mp q) (fun hh => ep (prt.1.mp hh)), fun _ => mj_blk rfl ?_⟩
      simp +decide only [mjs_0, mjs_1, mjs_2, mjs_3, mjs_ble, true_and, Bool.false_eq_true, if_false, if_true, Nat.reduceAdd, Nat.reduceSub, Nat.reduceLeDiff, false_implies, true_implies, not_false_eq_true, not_true_eq_false, and_true, mm_sh, hm, mjs_up_at, mjs_up_c, mjs_up_f, en, j52]
      refine ⟨nI_in (by omega) (by decide), ?_⟩
      refine rq_143 hM' hJ prt.2.2 hp (fun hle J' c1 => ?_) (fun hle J' c1 => ?_)
      · simp +decide only [mjs_0, mjs_1, mjs_2, mjs_3, mjs_ble, true_and, Bool.false_eq_true, if_false, if_true, Nat.reduceAdd, Nat.reduceSub, Nat.reduceLeDiff, false_implies, true_implies, not_false_eq_true, not_true_eq_false, and_true]
        exact mj_nv (fin1 (by rw [List.length_cons]; omega) J' c1)
      · simp +decide only [mjs_0, mjs_1, mjs_2, mjs_3, mjs_ble, true_and, Bool.false_eq_true, if_false, if_true, Nat.reduceAdd, Nat.reduceSub, Nat.reduceLeDiff, false_implies, true_implies, not_false_eq_true, not_true_eq_false, and_true]
        exact mj_nv (fin0 (by rw [List.length_cons]; omega) J' c1)
end MJBD
