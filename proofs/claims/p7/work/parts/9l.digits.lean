/-! DIGITS READ, in both -/
def tkI : Option Nat → Int32
  | none => -1
  | some t => nI t
def tkR : Option Nat → Int32
  | none => -1
  | some t => nI (rt t)
def dsp : Option Nat → List Nat → List Nat
  | none, P => P
  | some t, P => if t / 256 = 10 then P else t :: P
def tdg : Option Nat → Int32
  | none => -1
  | some t => if 3120 ≤ t ∧ t ≤ 3129 then nI (t - 3120) else -1
def isdg (o : Option Nat) : Prop := ∃ t, o = some t ∧ 3120 ≤ t ∧ t ≤ 3129
def ov (k : Nat) (o : Option Nat) : Prop := ∀ t, o = some t → tv k t
theorem dsp_len {o : Option Nat} {P : List Nat} : (dsp o P).length ≤ P.length + 1 := by
  cases o with
  | none => exact Nat.le_succ _
  | some t =>
    show (if t / 256 = 10 then P else t :: P).length ≤ _
    split
    · omega
    · rw [List.length_cons]
      omega
theorem tdg_n {o : Option Nat} (h : ¬ isdg o) : tdg o = -1 := by
  cases o with
  | none => rfl
  | some t => exact if_neg (fun hh => h ⟨t, rfl, hh.1, hh.2⟩)
section MJDI
variable {X : mj_X} {d nc ns : Nat} {Q : mj_Q} {I I' J J' H : Nat → Nat → Int32} {Lg : Nat → Nat → Int64} {Rf : Nat → Nat → Option Nat} {fb fb' : Nat → Nat → Int32} {vb : Nat → Int32} {K K' K'' : Nat × Nat × Nat} {P P' P'' : List Nat} {E : sgE} {N N' N'' : sgN} {S S' S'' : sgS} {M : sgM} {C C' C'' : sgC} {O : sgO} {L L' L'' : sgL} {t n kc kr dp : Nat} {o : Option Nat}
theorem gv_dsp (h : gv (K, P, E, N, S, M, C, O, L)) (ho : ov N.2.2 o) : gv (K, dsp o P, E, N, S, M, C, O, L) := by
  cases o with
  | none => exact h
  | some t =>
    show gv (K, (if t / 256 = 10 then P else t :: P), E, N, S, M, C, O, L)
    split
    · exact h
    · exact gv_P1 h (ho t rfl)
/-- a token that may be none -/
theorem xd_e (hX : XD X Rf vb kc kr n) {D : Nat} (hk : kc ≤ D) (hn : K.2.2 + n = 40) (hr' : nc + 1 ≤ X.2.2.1 ∧ ns + 6 ≤ X.2.2.2) (hv : gv (K, P, E, N, S, M, C, O, L)) (hw : gw K S) (hp : P.length ≤ 10000) (h : RC fb vb (K, P, E, N, S, M, C, O, L) I)
    (hQ1 : ∀ fb' K' P' N' S' C' L' I' o, gv (K', P', E, N', S', M, C', O, L') → RC fb' vb (K', P', E, N', S', M, C', O, L') I' → P'.length ≤ 9999 → xs K P N S C L K' P' N' S' C' L' → (o ≠ none → mu K' P' L' < mu K P L) → ov N'.2.2 o → (o = none → P' = []) → (∀ t, o = some t → ¬ gx S' t) → RX X Rf kr 129 [.ref 36] (K, P, E, N, S, M, C, O, L) na (some (.int (tkR o))) (K', P', E, N', S', M, C', O, L') na → Q (.inl (some (.int (tkI o)))) (sh59, I', Lg, Rf, nc, ns))
    (hQ3 : ∀ g' I', RCf fb vb g' I' → RY X Rf kr 129 [.ref 36] (K, P, E, N, S, M, C, O, L) na (some (.int (-1))) g' → Q (.inr 500) (sh59, I', Lg, Rf, nc + 1, ns + 6)) :
    mj_call X mj_P (mj_bi X) D 22 [.ref 28, .int 1] (sh59, I, Lg, Rf, nc, ns) Q := by
  refine hX fb K P E N S M C O L 1 nc ns Lg I Q D hk hn hr' hv hw hp (Or.inr rfl) h (fun fb' K' P' N' S' C' L' I' t a1 a2 a3 a4 a5 a6 a7 a8 => hQ1 fb' K' P' N' S' C' L' I' (some t) a1 a2 a3 a4 (fun _ => a5) (fun u hu => by cases hu; exact a6) (fun hu => by cases hu) (fun u hu => by cases hu; exact a7) a8) (fun _ fb' K' N' S' C' L' I' a1 a2 a3 _ a4 => hQ1 fb' K' [] N' S' C' L' I' none a1 a2 (by simp) a3 (fun hh => absurd rfl hh) (fun u hu => by cases hu) (fun _ => rfl) (fun u hu => by cases hu) a4) (fun g' I' a1 a2 a3 => hQ3 g' I' a1 (a2.resolve_right (fun e => absurd e.1 (by decide))))
/-- dropSpace -/
theorem cq_41 (hR : mj_Rt mp_R Rf) (h : RC fb vb (K, P, E, N, S, M, C, O, L) I) (ho : ∀ t, o = some t → t < 2 ^ 31) (hl : P.length + 1 < 10100) (hQ : ∀ I', RC fb vb (K, dsp o P, E, N, S, M, C, O, L) I' → Q (.inl none) (sh59, I', Lg, Rf, nc, ns)) : mj_call X mj_P (mj_bi X) (d + 3) 41 [.ref 28, .int (tkI o)] (sh59, I, Lg, Rf, nc, ns) Q := by
  have hr := mc_rf hR
  cases o with
  | none =>
    have e : tkI none = -1 := rfl
    refine mj_enter (z := (2, [], mb_41)) (by decide) rfl rfl ?_
    refine mj_blk rfl ?_
    simp +decide only [mjs_0, mjs_1, mjs_2, mjs_3, mjs_ble, true_and, Bool.false_eq_true, if_false, if_true, Nat.reduceAdd, Nat.reduceSub, Nat.reduceLeDiff, false_implies, true_implies, not_false_eq_true, not_true_eq_false, and_true, e]
    refine mj_blk rfl ?_
    simp +decide only [mjs_0, mjs_1, mjs_2, mjs_3, mjs_ble, true_and, Bool.false_eq_true, if_false, if_true, Nat.reduceAdd, Nat.reduceSub, Nat.reduceLeDiff, false_implies, true_implies, not_false_eq_true, not_true_eq_false, and_true]
    exact hQ I h
  | some t =>
    have e : tkI (some t) = nI t := rfl
    have htl := ho t rfl
    have hne : ¬ nI t = -1 := fun q => absurd (nI_pos htl) (by rw [q]; decide)
    refine mj_enter (z := (2, [], mb_41)) (by decide) rfl rfl ?_
    refine mj_blk rfl ?_
    simp +decide only [mjs_0, mjs_1, mjs_2, mjs_3, mjs_ble, true_and, Bool.false_eq_true, if_false, if_true, Nat.reduceAdd, Nat.reduceSub, Nat.reduceLeDiff, false_implies, true_implies, not_false_eq_true, not_true_eq_false, and_true, e]
    refine ⟨fun q => absurd q hne, fun _ => mj_blk rfl ?_⟩
    simp +decide only [mjs_0, mjs_1, mjs_2, mjs_3, mjs_ble, true_and, Bool.false_eq_true, if_false, if_true, Nat.reduceAdd, Nat.reduceSub, Nat.reduceLeDiff, false_implies, true_implies, not_false_eq_true, not_true_eq_false, and_true]
    refine c_190 htl ?_
    by_cases e10 : t / 256 = 10
    · rw [if_pos e10]
      have hq := hQ I (by rw [show dsp (some t) P = P from if_pos e10]; exact h)
      simp +decide only [mjs_0, mjs_1, mjs_2, mjs_3, mjs_ble, true_and, Bool.false_eq_true, if_false, if_true, Nat.reduceAdd, Nat.reduceSub, Nat.reduceLeDiff, false_implies, true_implies, not_false_eq_true, not_true_eq_false, and_true]
      refine mj_blk rfl ?_
      simp +decide only [mjs_0, mjs_1, mjs_2, mjs_3, mjs_ble, true_and, Bool.false_eq_true, if_false, if_true, Nat.reduceAdd, Nat.reduceSub, Nat.reduceLeDiff, false_implies, true_implies, not_false_eq_true, not_true_eq_false, and_true]
      exact hq
    · rw [if_neg e10]
      simp +decide only [mjs_0, mjs_1, mjs_2, mjs_3, mjs_ble, true_and, Bool.false_eq_true, if_false, if_true, Nat.reduceAdd, Nat.reduceSub, Nat.reduceLeDiff, false_implies, true_implies, not_false_eq_true, not_true_eq_false, and_true]
      refine mj_blk rfl ?_
      simp +decide only [mjs_0, mjs_1, mjs_2, mjs_3, mjs_ble, true_and, Bool.false_eq_true, if_false, if_true, Nat.reduceAdd, Nat.reduceSub, Nat.reduceLeDiff, false_implies, true_implies, not_false_eq_true, not_true_eq_false, and_true, mc_sh, hr, mjs_up_at, mjs_up_c, mjs_up_f]
      refine cq_84 hR h hl (fun I' c1 _ => ?_)
      simp +decide only [mjs_0, mjs_1, mjs_2, mjs_3, mjs_ble, true_and, Bool.false_eq_true, if_false, if_true, Nat.reduceAdd, Nat.reduceSub, Nat.reduceLeDiff, false_implies, true_implies, not_false_eq_true, not_true_eq_false, and_true]
      refine mj_blk rfl ?_
      simp +decide only [mjs_0, mjs_1, mjs_2, mjs_3, mjs_ble, true_and, Bool.false_eq_true, if_false, if_true, Nat.reduceAdd, Nat.reduceSub, Nat.reduceLeDiff, false_implies, true_implies, not_false_eq_true, not_true_eq_false, and_true]
      exact hQ I' (by rw [show dsp (some t) P = t :: P from if_neg e10]; exact c1)
theorem r_118e {S' : mj_S} {m : Nat} (hQ : Q (.inl none) S') : mj_call X mj_P (mj_bi X) (d + 1) 118 [.ref m, .int (-1)] S' Q := by
  refine mj_enter (z := (2, [], mb_118)) (by decide) rfl rfl ?_
  refine mj_blk rfl ?_
  simp +decide only [mjs_0, mjs_1, mjs_2, mjs_3, mjs_ble, true_and, Bool.false_eq_true, if_false, if_true, Nat.reduceAdd, Nat.reduceSub, Nat.reduceLeDiff, false_implies, true_implies, not_false_eq_true, not_true_eq_false, and_true]
  refine mj_blk rfl ?_
  simp +decide only [mjs_0, mjs_1, mjs_2, mjs_3, mjs_ble, true_and, Bool.false_eq_true, if_false, if_true, Nat.reduceAdd, Nat.reduceSub, Nat.reduceLeDiff, false_implies, true_implies, not_false_eq_true, not_true_eq_false, and_true]
  exact hQ
/-- the reference's: a space is dropped, another token put -/
theorem rq_dsp {kk : Nat} (hk : kk ≤ 1036) (h3 : 36 ≤ kk) (ho : ov kk o) (hM' : mj_Rt mm_R Rf) (h : RR H (K, P, E, N, S, M, C, O, L) J) (hl : P.length < 10600) (hy : o ≠ none → dsp o P = P → RR H (K, dsp o P, E, N, S, M, C, O, L) J → Q (.inl (some (.int 1))) (sh59, J, Lg, Rf, nc, ns)) (hno : (∀ (d' : Nat) (Q' : mj_Q), (∀ J', RR H (K, dsp o P, E, N, S, M, C, O, L) J' → Q' (.inl none) (sh59, J', Lg, Rf, nc, ns)) → mj_call X mj_P (mj_bi X) (d' + 1) 118 [.ref 36, .int (tkR o)] (sh59, J, Lg, Rf, nc, ns) Q') → Q (.inl (some (.int 0))) (sh59, J, Lg, Rf, nc, ns)) : mj_call X mj_P (mj_bi X) (d + 2) 121 [.int (tkR o), .int (nI 10)] (sh59, J, Lg, Rf, nc, ns) Q := by
  cases o with
  | none => exact r_121e (hno (fun d' Q' hq => r_118e (hq J h)))
  | some t =>
    have ht := ho t rfl
    refine rq_121 (c := 10) hk h3 ht (by decide) (fun e => ?_) (fun e => ?_)
    · have e' : dsp (some t) P = P := if_pos ((cg_10 ht).mpr e)
      exact hy (by simp) e' (by rw [e']; exact h)
    · have e' : dsp (some t) P = t :: P := if_neg (fun q => e ((cg_10 ht).mp q))
      exact hno (fun d' Q' hq => rq_118 hM' h (by have := rt_lt hk h3 ht; omega) hl (fun J' c1 => hq J' (by rw [e']; exact c1)))
theorem rx_158 (hM' : mj_Rt mm_R Rf) {g : sg} (hv : gv (K', P', E, N', S', M, C', O, L')) (ho : ov N'.2.2 o) (hl : P'.length ≤ 10000) (h : RX X Rf kr 129 [.ref 36] g na (some (.int (tkR o))) (K', P', E, N', S', M, C', O, L') na) : RX X Rf (kr + 3) 158 [.ref 36] g na none (K', dsp o P', E, N', S', M, C', O, L') na := by
  have hm := mm_rf hM'
  have hk : N'.2.2 ≤ 1036 := (gv_d hv).2.2.1.2.1
  have hk1 : 36 ≤ N'.2.2 := (gv_d hv).2.2.1.1
  refine rx_in (z := 2) (by decide) rfl rfl rfl ?_
  intro H Lg d nc ns J Q hJ hA hq
  obtain ⟨D, hD, hDk⟩ : ∃ D, d + (kr + 2) = D + 2 ∧ kr ≤ D := ⟨d + kr, by omega, by omega⟩
  rw [hD]
  try rw [hD] at hq
  refine mj_blk rfl ?_
  simp +decide only [mjs_0, mjs_1, mjs_2, mjs_3, mjs_ble, true_and, Bool.false_eq_true, if_false, if_true, Nat.reduceAdd, Nat.reduceSub, Nat.reduceLeDiff, false_implies, true_implies, not_false_eq_true, not_true_eq_false, and_true, mm_sh, hm, mjs_up_at, mjs_up_c, mjs_up_f]
  refine rx_at h (by omega) hJ trivial (fun H1 J1 c1 c2 _ => ?_)
  simp +decide only [mjs_0, mjs_1, mjs_2, mjs_3, mjs_ble, true_and, Bool.false_eq_true, if_false, if_true, Nat.reduceAdd, Nat.reduceSub, Nat.reduceLeDiff, false_implies, true_implies, not_false_eq_true, not_true_eq_false, and_true, mm_sh, hm, mjs_up_at, mjs_up_c, mjs_up_f]
  refine rq_dsp hk hk1 ho hM' c2 (by omega) (fun _ _ c3 => ?_) (fun hp => ?_)
  · simp +decide only [mjs_0, mjs_1, mjs_2, mjs_3, mjs_ble, true_and, Bool.false_eq_true, if_false, if_true, Nat.reduceAdd, Nat.reduceSub, Nat.reduceLeDiff, false_implies, true_implies, not_false_eq_true, not_true_eq_false, and_true, mm_sh, hm, mjs_up_at, mjs_up_c, mjs_up_f]
    refine mj_blk rfl ?_
    simp +decide only [mjs_0, mjs_1, mjs_2, mjs_3, mjs_ble, true_and, Bool.false_eq_true, if_false, if_true, Nat.reduceAdd, Nat.reduceSub, Nat.reduceLeDiff, false_implies, true_implies, not_false_eq_true, not_true_eq_false, and_true, mm_sh, hm, mjs_up_at, mjs_up_c, mjs_up_f]
    exact hq H1 J1 c1 c3 trivial
  · simp +decide only [mjs_0, mjs_1, mjs_2, mjs_3, mjs_ble, true_and, Bool.false_eq_true, if_false, if_true, Nat.reduceAdd, Nat.reduceSub, Nat.reduceLeDiff, false_implies, true_implies, not_false_eq_true, not_true_eq_false, and_true, mm_sh, hm, mjs_up_at, mjs_up_c, mjs_up_f]
    refine mj_blk rfl ?_
    simp +decide only [mjs_0, mjs_1, mjs_2, mjs_3, mjs_ble, true_and, Bool.false_eq_true, if_false, if_true, Nat.reduceAdd, Nat.reduceSub, Nat.reduceLeDiff, false_implies, true_implies, not_false_eq_true, not_true_eq_false, and_true, mm_sh, hm, mjs_up_at, mjs_up_c, mjs_up_f]
    refine hp _ _ (fun J2 c3 => ?_)
    simp +decide only [mjs_0, mjs_1, mjs_2, mjs_3, mjs_ble, true_and, Bool.false_eq_true, if_false, if_true, Nat.reduceAdd, Nat.reduceSub, Nat.reduceLeDiff, false_implies, true_implies, not_false_eq_true, not_true_eq_false, and_true, mm_sh, hm, mjs_up_at, mjs_up_c, mjs_up_f]
    refine mj_blk rfl ?_
    simp +decide only [mjs_0, mjs_1, mjs_2, mjs_3, mjs_ble, true_and, Bool.false_eq_true, if_false, if_true, Nat.reduceAdd, Nat.reduceSub, Nat.reduceLeDiff, false_implies, true_implies, not_false_eq_true, not_true_eq_false, and_true, mm_sh, hm, mjs_up_at, mjs_up_c, mjs_up_f]
    exact hq H1 J2 c1 c3 trivial
theorem ry_158 (hM' : mj_Rt mm_R Rf) {g g' : sg} (h : RY X Rf kr 129 [.ref 36] g na (some (.int (-1))) g') : RY X Rf (kr + 3) 158 [.ref 36] g na none g' := by
  have hm := mm_rf hM'
  refine ry_in (z := 2) (by decide) rfl rfl rfl ?_
  intro H Lg d nc ns J Q hJ hA hq
  obtain ⟨D, hD, hDk⟩ : ∃ D, d + (kr + 2) = D + 2 ∧ kr ≤ D := ⟨d + kr, by omega, by omega⟩
  rw [hD]
  try rw [hD] at hq
  refine mj_blk rfl ?_
  simp +decide only [mjs_0, mjs_1, mjs_2, mjs_3, mjs_ble, true_and, Bool.false_eq_true, if_false, if_true, Nat.reduceAdd, Nat.reduceSub, Nat.reduceLeDiff, false_implies, true_implies, not_false_eq_true, not_true_eq_false, and_true, mm_sh, hm, mjs_up_at, mjs_up_c, mjs_up_f]
  refine ry_at h (by omega) hJ trivial (fun J1 c1 => ?_)
  simp +decide only [mjs_0, mjs_1, mjs_2, mjs_3, mjs_ble, true_and, Bool.false_eq_true, if_false, if_true, Nat.reduceAdd, Nat.reduceSub, Nat.reduceLeDiff, false_implies, true_implies, not_false_eq_true, not_true_eq_false, and_true, mm_sh, hm, mjs_up_at, mjs_up_c, mjs_up_f]
  refine r_121e ?_
  simp +decide only [mjs_0, mjs_1, mjs_2, mjs_3, mjs_ble, true_and, Bool.false_eq_true, if_false, if_true, Nat.reduceAdd, Nat.reduceSub, Nat.reduceLeDiff, false_implies, true_implies, not_false_eq_true, not_true_eq_false, and_true, mm_sh, hm, mjs_up_at, mjs_up_c, mjs_up_f]
  refine mj_blk rfl ?_
  simp +decide only [mjs_0, mjs_1, mjs_2, mjs_3, mjs_ble, true_and, Bool.false_eq_true, if_false, if_true, Nat.reduceAdd, Nat.reduceSub, Nat.reduceLeDiff, false_implies, true_implies, not_false_eq_true, not_true_eq_false, and_true, mm_sh, hm, mjs_up_at, mjs_up_c, mjs_up_f]
  refine r_118e ?_
  simp +decide only [mjs_0, mjs_1, mjs_2, mjs_3, mjs_ble, true_and, Bool.false_eq_true, if_false, if_true, Nat.reduceAdd, Nat.reduceSub, Nat.reduceLeDiff, false_implies, true_implies, not_false_eq_true, not_true_eq_false, and_true, mm_sh, hm, mjs_up_at, mjs_up_c, mjs_up_f]
  refine mj_blk rfl ?_
  simp +decide only [mjs_0, mjs_1, mjs_2, mjs_3, mjs_ble, true_and, Bool.false_eq_true, if_false, if_true, Nat.reduceAdd, Nat.reduceSub, Nat.reduceLeDiff, false_implies, true_implies, not_false_eq_true, not_true_eq_false, and_true, mm_sh, hm, mjs_up_at, mjs_up_c, mjs_up_f]
  exact hq J1 c1
theorem cq_191 {S' : mj_S} (ho : ∀ t, o = some t → t < 2 ^ 30) (hQ : Q (.inl (some (.int (tdg o)))) S') : mj_call X mj_P (mj_bi X) (d + 1) 191 [.int (tkI o)] S' Q := by
  cases o with
  | none => exact c_191e hQ
  | some t => exact c_191 (ho t rfl) hQ
theorem rt_dg {k : Nat} (hk : k ≤ 1036) (h3 : 36 ≤ k) (ht : tv k t) : ((3120 : Int32) ≤ nI (rt t) ∧ nI (rt t) ≤ 3129) ↔ (3120 ≤ t ∧ t ≤ 3129) := by
  have hl := rt_lt hk h3 ht
  have e := rt_cg hk h3 ht (c := 12) (by decide)
  have hcg : cg t = 12 ↔ (3072 ≤ t ∧ t < 3328) := by
    unfold cg
    split <;> omega
  rw [show (3120 : Int32) = nI 3120 from rfl, show (3129 : Int32) = nI 3129 from rfl, nI_leI (by decide) (by omega), nI_leI (by omega) (by decide)]
  constructor
  · intro hh
    have h1 := hcg.mp (e.mp (by omega))
    have : rt t = t := by
      unfold rt rb
      rw [if_neg (by omega), if_pos (by omega)]
    omega
  · intro hh
    have : rt t = t := by
      unfold rt rb
      rw [if_neg (by omega), if_pos (by omega)]
    omega
theorem rq_157 {S' : mj_S} {k : Nat} (hk : k ≤ 1036) (h3 : 36 ≤ k) (ho : ov k o) (hQ1 : isdg o → Q (.inl (some (.int 1))) S') (hQ0 : ¬ isdg o → Q (.inl (some (.int 0))) S') : mj_call X mj_P (mj_bi X) (d + 1) 157 [.int (tkR o)] S' Q := by
  cases o with
  | none => exact r_157 (fun hh => absurd hh (by decide)) (fun _ => hQ0 (fun ⟨t, h1, _⟩ => by cases h1))
  | some t =>
    have e := rt_dg hk h3 (ho t rfl)
    exact r_157 (fun hh => hQ1 ⟨t, rfl, e.mp hh⟩) (fun hh => hQ0 (fun ⟨u, h1, h2⟩ => by cases h1; exact hh (e.mpr h2)))
set_option maxRecDepth 100000 in
theorem mu_le (hK : K.2.1 ≤ 30000) (hp : P.length ≤ 10000) (hl : tl L ≤ 4001) : mu K P L ≤ 30000 * 20000 + 14001 := by
  unfold mu
  have : (K.2.1 - K.1) * 20000 ≤ 30000 * 20000 := Nat.mul_le_mul_right _ (by omega)
  omega
theorem mu_len (h : P'.length ≤ P.length + 1) : mu K P' L ≤ mu K P L + 1 := by
  unfold mu
  generalize (K.2.1 - K.1) * 20000 = z
  omega
/-- digits -/
theorem p_40 (hR : mj_Rt mp_R Rf) (hM' : mj_Rt mm_R Rf) (hX : XD X Rf vb kc kr n) {D : Nat} (hD : kc + 4 ≤ D) (hn : K.2.2 + n = 40) (hr' : nc + 1 ≤ X.2.2.1 ∧ ns + 6 ≤ X.2.2.2) (hv : gv (K, P, E, N, S, M, C, O, L)) (hw : gw K S) (hp : P.length ≤ 9999) (ht : tv N.2.2 t) (hdg : 3120 ≤ t ∧ t ≤ 3129) (h : RC fb vb (K, P, E, N, S, M, C, O, L) I)
    (hQ1 : ∀ fb' K' P' N' S' C' L' I' v, gv (K', P', E, N', S', M, C', O, L') → RC fb' vb (K', P', E, N', S', M, C', O, L') I' → P'.length ≤ 10000 → xs K (t :: P) N S C L K' P' N' S' C' L' → v < 2 ^ 31 → RX X Rf (kr + 4) 159 [.ref 36, .int (nI (rt t))] (K, P, E, N, S, M, C, O, L) na (some (.int (nI v))) (K', P', E, N', S', M, C', O, L') na → Q (.inl (some (.int (nI v)))) (sh59, I', Lg, Rf, nc, ns))
    (hQ3 : ∀ g' I', RCf fb vb g' I' → RY X Rf (kr + 4) 159 [.ref 36, .int (nI (rt t))] (K, P, E, N, S, M, C, O, L) na (some (.int 0)) g' → Q (.inr 500) (sh59, I', Lg, Rf, nc + 1, ns + 6)) :
    mj_call X mj_P (mj_bi X) D 40 [.ref 28, .int (nI t)] (sh59, I, Lg, Rf, nc, ns) Q := by
  have hr := mc_rf hR
  have hm := mm_rf hM'
  obtain ⟨d, rfl⟩ : ∃ d, D = d + 4 := ⟨D - 4, by omega⟩
  have k5 := (rc_d h).1.2.2.2
  have hmu0 := mu_le (K := K) (P := P) (L := L) k5.2.1 (by omega) (tl_le (gv_d hv).2.2.2.2.2.2.2)
  have loop : ∀ (m i v : Nat) (o : Option Nat) (fb' : Nat → Nat → Int32) (K' : Nat × Nat × Nat) (P' : List Nat) (N' : sgN) (S' : sgS) (C' : sgC) (L' : sgL) (I' : Nat → Nat → Int32), mu K' P' L' ≤ m → i + m ≤ 700000000 → v < 2 ^ 31 → gv (K', P', E, N', S', M, C', O, L') → RC fb' vb (K', P', E, N', S', M, C', O, L') I' → P'.length ≤ 9999 → nx N N' ∧ (K.1 ≤ K'.1 ∧ K'.2 = K.2) ∧ tl L' ≤ tl L ∧ sx K S K' S' ∧ cx C C' → (o ≠ none → mu K' P' L' + 1 ≤ mu K (t :: P) L) → (o = none → mu K' P' L' ≤ mu K (t :: P) L) → ov N'.2.2 o → RM X Rf mb_159 (kr + 3) 0 [some (.ref 36), some (.int (nI (rt t))), none, none, none] [] (K, P, E, N, S, M, C, O, L) na 5 [some (.ref 36), none, some (.long (lN v)), none, some (.int (tkR o))] [] (K', P', E, N', S', M, C', O, L') na → mj_rn X (mj_hd []) (mj_call X mj_P (mj_bi X) (d + 3)) mb_40 13 [some (.ref 28), none, some (.int (tkI o)), some (.int (tdg o)), some (.long (lN v)), none, some (.int (nI i))] [] (sh59, I', Lg, Rf, nc, ns) Q := by
    intro m
    induction m using Nat.strongRecOn with
    | ind m ih =>
      intro i v o fb' K' P' N' S' C' L' I' h1 h2 hvv hv' h' hp' hx hmu1 hmu2 ho hM
      obtain ⟨x1, x2, x3, x4, x5⟩ := hx
      have hk : N'.2.2 ≤ 1036 := (gv_d hv').2.2.1.2.1
      have hk1 : 36 ≤ N'.2.2 := (gv_d hv').2.2.1.1
      have hgw : gw K' S' := by
        refine ⟨by have := hw.1; have := x4.2.1; omega, fun l c hl hc => ?_⟩
        rw [x4.2.2.2.1 l c (by rw [← x4.1]; exact hl) (by omega)]
        exact hw.2 l c (by rw [← x4.1]; exact hl) hc
      refine mj_blk rfl ?_
      simp +decide only [mjs_0, mjs_1, mjs_2, mjs_3, mjs_ble, true_and, Bool.false_eq_true, if_false, if_true, Nat.reduceAdd, Nat.reduceSub, Nat.reduceLeDiff, false_implies, true_implies, not_false_eq_true, not_true_eq_false, and_true]
      refine ⟨fun q => absurd q (nI_ge (a := i) (b := 1000000000) (by omega) (by decide)), fun _ => mj_blk rfl ?_⟩
      by_cases hd : isdg o
      · obtain ⟨t1, rfl, d1, d2⟩ := hd
        have hdd : isdg (some t1) := ⟨t1, rfl, d1, d2⟩
        have e0 : tdg (some t1) = nI (t1 - 3120) := if_pos ⟨d1, d2⟩
        have ert : rt t1 = t1 := by
          unfold rt rb
          rw [if_neg (by omega), if_pos (by omega)]
        have e1 : (10 : Int64) * lN v = lN (10 * v) := lN_mul 10 v
        have e2 : (nI (t1 - 3120)).toInt64 = lN (t1 - 3120) := nI_l (by omega)
        have e3 : lN (10 * v) + lN (t1 - 3120) = lN (10 * v + (t1 - 3120)) := lN_add _ _
        have f1 : nI t1 - nI t1 / 256 * 256 = nI (t1 % 256) := pk_rem (d := 256) (by omega) (by decide) (by decide)
        have f2 : (nI (t1 % 256)).toInt64 = lN (t1 % 256) := nI_l (by omega)
        have f3 : lN (10 * v) + lN (t1 % 256) - 48 = lN (10 * v + (t1 - 3120)) := by
          rw [lN_add, show (48 : Int64) = lN 48 from rfl, lN_sub (by omega)]
          exact congrArg lN (by omega)
        have ecmp : lg_cmp (lN (10 * v + (t1 - 3120))) 2147483647 ≤ 0 ↔ 10 * v + (t1 - 3120) ≤ 2147483647 := (lg_cmp_le _ _).trans (pk_lLE (b := 2147483647) (by omega) (by decide))
        simp +decide only [mjs_0, mjs_1, mjs_2, mjs_3, mjs_ble, true_and, Bool.false_eq_true, if_false, if_true, Nat.reduceAdd, Nat.reduceSub, Nat.reduceLeDiff, false_implies, true_implies, not_false_eq_true, not_true_eq_false, and_true, e0]
        refine ⟨fun q => absurd q (nI_pos (by omega)), fun _ => mj_blk rfl ?_⟩
        simp +decide only [mjs_0, mjs_1, mjs_2, mjs_3, mjs_ble, true_and, Bool.false_eq_true, if_false, if_true, Nat.reduceAdd, Nat.reduceSub, Nat.reduceLeDiff, false_implies, true_implies, not_false_eq_true, not_true_eq_false, and_true, e1, e2, e3]
        -- the reference to its comparison
        have r20 : ∀ {H J : Nat → Nat → Int32} {Lg : Nat → Nat → Int64} {D nc ns : Nat} {Q : mj_Q}, RR H (K', P', E, N', S', M, C', O, L') J → (10 * v + (t1 - 3120) ≤ 2147483647 → mj_rn X (mj_hd []) (mj_call X mj_P (mj_bi X) (D + 3)) mb_159 52 [some (.ref 36), none, some (.long (lN (10 * v + (t1 - 3120)))), none, none] [] (sh59, J, Lg, Rf, nc, ns) Q) → (¬ 10 * v + (t1 - 3120) ≤ 2147483647 → mj_rn X (mj_hd []) (mj_call X mj_P (mj_bi X) (D + 3)) mb_159 46 [some (.ref 36), none, some (.long (lN (10 * v + (t1 - 3120)))), none, none] [] (sh59, J, Lg, Rf, nc, ns) Q) → mj_rn X (mj_hd []) (mj_call X mj_P (mj_bi X) (D + 3)) mb_159 5 [some (.ref 36), none, some (.long (lN v)), none, some (.int (tkR (some t1)))] [] (sh59, J, Lg, Rf, nc, ns) Q := by
          intro H J Lg D nc ns Q hJ q1 q0
          have et : tkR (some t1) = nI t1 := by
            show nI (rt t1) = _
            rw [ert]
          refine mj_blk rfl ?_
          simp +decide only [mjs_0, mjs_1, mjs_2, mjs_3, mjs_ble, true_and, Bool.false_eq_true, if_false, if_true, Nat.reduceAdd, Nat.reduceSub, Nat.reduceLeDiff, false_implies, true_implies, not_false_eq_true, not_true_eq_false, and_true, mm_sh, hm, mjs_up_at, mjs_up_c, mjs_up_f]
          refine rq_157 hk hk1 ho (fun _ => ?_) (fun hh => absurd hdd hh)
          simp +decide only [mjs_0, mjs_1, mjs_2, mjs_3, mjs_ble, true_and, Bool.false_eq_true, if_false, if_true, Nat.reduceAdd, Nat.reduceSub, Nat.reduceLeDiff, false_implies, true_implies, not_false_eq_true, not_true_eq_false, and_true, mm_sh, hm, mjs_up_at, mjs_up_c, mjs_up_f]
          refine mj_blk rfl ?_
          simp +decide only [mjs_0, mjs_1, mjs_2, mjs_3, mjs_ble, true_and, Bool.false_eq_true, if_false, if_true, Nat.reduceAdd, Nat.reduceSub, Nat.reduceLeDiff, false_implies, true_implies, not_false_eq_true, not_true_eq_false, and_true, mm_sh, hm, mjs_up_at, mjs_up_c, mjs_up_f, (rr_d hJ).1.2.2.2]
          refine mj_blk rfl ?_
          simp +decide only [mjs_0, mjs_1, mjs_2, mjs_3, mjs_ble, true_and, Bool.false_eq_true, if_false, if_true, Nat.reduceAdd, Nat.reduceSub, Nat.reduceLeDiff, false_implies, true_implies, not_false_eq_true, not_true_eq_false, and_true, mm_sh, hm, mjs_up_at, mjs_up_c, mjs_up_f, et, e1, f1, f2, f3]
          exact ⟨fun q => mj_nv (q1 (ecmp.mp q)), fun q => mj_nv (q0 (fun hh => q (ecmp.mpr hh)))⟩
        refine ⟨fun q => mj_blk rfl ?_, fun q => mj_blk rfl ?_⟩
        · have hle := ecmp.mp q
          simp +decide only [mjs_0, mjs_1, mjs_2, mjs_3, mjs_ble, true_and, Bool.false_eq_true, if_false, if_true, Nat.reduceAdd, Nat.reduceSub, Nat.reduceLeDiff, false_implies, true_implies, not_false_eq_true, not_true_eq_false, and_true, mc_sh]
          refine xd_e hX (by omega) (by rw [x2.2]; exact hn) hr' hv' hgw (by omega) h' (fun fb2 K2 P2 N2 S2 C2 L2 I2 o2 a1 a2 a3 a4 a5 a6 a7 a8 a9 => ?_) (fun g2 I2 a1 a2 => ?_)
          · have hk2 : N2.2.2 ≤ 1036 := (gv_d a1).2.2.1.2.1
            simp +decide only [mjs_0, mjs_1, mjs_2, mjs_3, mjs_ble, true_and, Bool.false_eq_true, if_false, if_true, Nat.reduceAdd, Nat.reduceSub, Nat.reduceLeDiff, false_implies, true_implies, not_false_eq_true, not_true_eq_false, and_true]
            refine cq_191 (fun u hu => by have := tv_lt hk2 (a6 u hu); omega) ?_
            simp +decide only [mjs_0, mjs_1, mjs_2, mjs_3, mjs_ble, true_and, Bool.false_eq_true, if_false, if_true, Nat.reduceAdd, Nat.reduceSub, Nat.reduceLeDiff, false_implies, true_implies, not_false_eq_true, not_true_eq_false, and_true, nI_1]
            have hmu := a4.2.2.1
            have hmm := hmu1 (by simp)
            have stp : RM X Rf mb_159 (kr + 3) 0 [some (.ref 36), some (.int (nI (rt t))), none, none, none] [] (K, P, E, N, S, M, C, O, L) na 5 [some (.ref 36), none, some (.long (lN (10 * v + (t1 - 3120)))), none, some (.int (tkR o2))] [] (K2, P2, E, N2, S2, M, C2, O, L2) na := by
              refine rm_tr hM ?_
              intro H Lg d nc ns J Q hJ hA hq
              obtain ⟨D, hD, hDk⟩ : ∃ D, d + (kr + 3) = D + 3 ∧ kr ≤ D := ⟨d + kr, by omega, by omega⟩
              rw [hD]
              try rw [hD] at hq
              refine r20 hJ (fun _ => ?_) (fun hh => absurd hle hh)
              refine mj_blk rfl ?_
              simp +decide only [mjs_0, mjs_1, mjs_2, mjs_3, mjs_ble, true_and, Bool.false_eq_true, if_false, if_true, Nat.reduceAdd, Nat.reduceSub, Nat.reduceLeDiff, false_implies, true_implies, not_false_eq_true, not_true_eq_false, and_true, mm_sh, hm, mjs_up_at, mjs_up_c, mjs_up_f]
              refine rx_at a9 (by omega) hJ trivial (fun H1 J1 c1 c2 _ => ?_)
              simp +decide only [mjs_0, mjs_1, mjs_2, mjs_3, mjs_ble, true_and, Bool.false_eq_true, if_false, if_true, Nat.reduceAdd, Nat.reduceSub, Nat.reduceLeDiff, false_implies, true_implies, not_false_eq_true, not_true_eq_false, and_true, mm_sh, hm, mjs_up_at, mjs_up_c, mjs_up_f]
              exact mj_nv (hq H1 J1 c1 c2 trivial)
            have hx2 : nx N N2 ∧ (K.1 ≤ K2.1 ∧ K2.2 = K.2) ∧ tl L2 ≤ tl L ∧ sx K S K2 S2 ∧ cx C C2 := ⟨nx_tr x1 a4.1, ⟨Nat.le_trans x2.1 a4.2.1.1, a4.2.1.2.trans x2.2⟩, Nat.le_trans a4.2.2.2.1 x3, sx_tr x4 a4.2.2.2.2.1, cx_tr x5 a4.2.2.2.2.2⟩
            by_cases eo : o2 = none
            · -- at the end of the text
              subst eo
              have ed : tdg none = -1 := rfl
              have et : tkI none = -1 := rfl
              refine mj_blk rfl ?_
              simp +decide only [mjs_0, mjs_1, mjs_2, mjs_3, mjs_ble, true_and, Bool.false_eq_true, if_false, if_true, Nat.reduceAdd, Nat.reduceSub, Nat.reduceLeDiff, false_implies, true_implies, not_false_eq_true, not_true_eq_false, and_true, ed, et]
              refine ⟨fun q => absurd q (nI_ge (a := i + 1) (b := 1000000000) (by omega) (by decide)), fun _ => mj_blk rfl ?_⟩
              simp +decide only [mjs_0, mjs_1, mjs_2, mjs_3, mjs_ble, true_and, Bool.false_eq_true, if_false, if_true, Nat.reduceAdd, Nat.reduceSub, Nat.reduceLeDiff, false_implies, true_implies, not_false_eq_true, not_true_eq_false, and_true]
              refine mj_blk rfl ?_
              simp +decide only [mjs_0, mjs_1, mjs_2, mjs_3, mjs_ble, true_and, Bool.false_eq_true, if_false, if_true, Nat.reduceAdd, Nat.reduceSub, Nat.reduceLeDiff, false_implies, true_implies, not_false_eq_true, not_true_eq_false, and_true, mc_sh]
              refine cq_41 (o := none) hR a2 (fun u hu => by cases hu) (by omega) (fun I3 c3 => ?_)
              simp +decide only [mjs_0, mjs_1, mjs_2, mjs_3, mjs_ble, true_and, Bool.false_eq_true, if_false, if_true, Nat.reduceAdd, Nat.reduceSub, Nat.reduceLeDiff, false_implies, true_implies, not_false_eq_true, not_true_eq_false, and_true, lN_i]
              refine hQ1 fb2 K2 P2 N2 S2 C2 L2 I3 (10 * v + (t1 - 3120)) a1 c3 (by omega) ⟨hx2.1, hx2.2.1, by omega, hx2.2.2.1, hx2.2.2.2.1, hx2.2.2.2.2⟩ (by omega) (rx_in (z := 5) (by decide) rfl rfl rfl (rm_e stp ?_))
              intro H Lg d nc ns J Q hJ hA hq
              obtain ⟨D, hD, hDk⟩ : ∃ D, d + (kr + 3) = D + 3 ∧ kr ≤ D := ⟨d + kr, by omega, by omega⟩
              rw [hD]
              try rw [hD] at hq
              refine mj_blk rfl ?_
              simp +decide only [mjs_0, mjs_1, mjs_2, mjs_3, mjs_ble, true_and, Bool.false_eq_true, if_false, if_true, Nat.reduceAdd, Nat.reduceSub, Nat.reduceLeDiff, false_implies, true_implies, not_false_eq_true, not_true_eq_false, and_true, mm_sh, hm, mjs_up_at, mjs_up_c, mjs_up_f]
              refine rq_157 (o := none) hk2 (gv_d a1).2.2.1.1 (fun u hu => by cases hu) (fun ⟨u, hu, _⟩ => by cases hu) (fun _ => ?_)
              simp +decide only [mjs_0, mjs_1, mjs_2, mjs_3, mjs_ble, true_and, Bool.false_eq_true, if_false, if_true, Nat.reduceAdd, Nat.reduceSub, Nat.reduceLeDiff, false_implies, true_implies, not_false_eq_true, not_true_eq_false, and_true, mm_sh, hm, mjs_up_at, mjs_up_c, mjs_up_f]
              refine mj_blk rfl ?_
              simp +decide only [mjs_0, mjs_1, mjs_2, mjs_3, mjs_ble, true_and, Bool.false_eq_true, if_false, if_true, Nat.reduceAdd, Nat.reduceSub, Nat.reduceLeDiff, false_implies, true_implies, not_false_eq_true, not_true_eq_false, and_true, mm_sh, hm, mjs_up_at, mjs_up_c, mjs_up_f, (rr_d hJ).1.2.2.2]
              refine mj_blk rfl ?_
              simp +decide only [mjs_0, mjs_1, mjs_2, mjs_3, mjs_ble, true_and, Bool.false_eq_true, if_false, if_true, Nat.reduceAdd, Nat.reduceSub, Nat.reduceLeDiff, false_implies, true_implies, not_false_eq_true, not_true_eq_false, and_true, mm_sh, hm, mjs_up_at, mjs_up_c, mjs_up_f]
              refine rq_dsp (o := none) hk2 (gv_d a1).2.2.1.1 (fun u hu => by cases hu) hM' hJ (by omega) (fun hh _ _ => absurd rfl hh) (fun hp => ?_)
              simp +decide only [mjs_0, mjs_1, mjs_2, mjs_3, mjs_ble, true_and, Bool.false_eq_true, if_false, if_true, Nat.reduceAdd, Nat.reduceSub, Nat.reduceLeDiff, false_implies, true_implies, not_false_eq_true, not_true_eq_false, and_true, mm_sh, hm, mjs_up_at, mjs_up_c, mjs_up_f]
              refine mj_blk rfl ?_
              simp +decide only [mjs_0, mjs_1, mjs_2, mjs_3, mjs_ble, true_and, Bool.false_eq_true, if_false, if_true, Nat.reduceAdd, Nat.reduceSub, Nat.reduceLeDiff, false_implies, true_implies, not_false_eq_true, not_true_eq_false, and_true, mm_sh, hm, mjs_up_at, mjs_up_c, mjs_up_f]
              refine hp _ _ (fun J2 c4 => ?_)
              simp +decide only [mjs_0, mjs_1, mjs_2, mjs_3, mjs_ble, true_and, Bool.false_eq_true, if_false, if_true, Nat.reduceAdd, Nat.reduceSub, Nat.reduceLeDiff, false_implies, true_implies, not_false_eq_true, not_true_eq_false, and_true, mm_sh, hm, mjs_up_at, mjs_up_c, mjs_up_f]
              refine mj_blk rfl ?_
              simp +decide only [mjs_0, mjs_1, mjs_2, mjs_3, mjs_ble, true_and, Bool.false_eq_true, if_false, if_true, Nat.reduceAdd, Nat.reduceSub, Nat.reduceLeDiff, false_implies, true_implies, not_false_eq_true, not_true_eq_false, and_true, mm_sh, hm, mjs_up_at, mjs_up_c, mjs_up_f, (rr_d c4).1.2.2.2]
              refine mj_blk rfl ?_
              simp +decide only [mjs_0, mjs_1, mjs_2, mjs_3, mjs_ble, true_and, Bool.false_eq_true, if_false, if_true, Nat.reduceAdd, Nat.reduceSub, Nat.reduceLeDiff, false_implies, true_implies, not_false_eq_true, not_true_eq_false, and_true, mm_sh, hm, mjs_up_at, mjs_up_c, mjs_up_f, lN_i]
              refine mj_blk rfl ?_
              simp +decide only [mjs_0, mjs_1, mjs_2, mjs_3, mjs_ble, true_and, Bool.false_eq_true, if_false, if_true, Nat.reduceAdd, Nat.reduceSub, Nat.reduceLeDiff, false_implies, true_implies, not_false_eq_true, not_true_eq_false, and_true, mm_sh, hm, mjs_up_at, mjs_up_c, mjs_up_f]
              exact hq H J2 hx_rf c4 trivial
            · have h5 := a5 eo
              exact mj_nv (ih (mu K2 P2 L2) (by omega) (i + 1) (10 * v + (t1 - 3120)) o2 fb2 K2 P2 N2 S2 C2 L2 I2 (Nat.le_refl _) (by omega) (by omega) a1 a2 a3 hx2 (fun _ => by omega) (fun _ => by omega) a6 stp)
          · simp +decide only [mjs_0, mjs_1, mjs_2, mjs_3, mjs_ble, true_and, Bool.false_eq_true, if_false, if_true, Nat.reduceAdd, Nat.reduceSub, Nat.reduceLeDiff, false_implies, true_implies, not_false_eq_true, not_true_eq_false, and_true]
            refine hQ3 g2 I2 a1 (ry_in (z := 5) (by decide) rfl rfl rfl (rm_f hM ?_))
            intro H Lg d nc ns J Q hJ hA hq
            obtain ⟨D, hD, hDk⟩ : ∃ D, d + (kr + 3) = D + 3 ∧ kr ≤ D := ⟨d + kr, by omega, by omega⟩
            rw [hD]
            try rw [hD] at hq
            refine r20 hJ (fun _ => ?_) (fun hh => absurd hle hh)
            refine mj_blk rfl ?_
            simp +decide only [mjs_0, mjs_1, mjs_2, mjs_3, mjs_ble, true_and, Bool.false_eq_true, if_false, if_true, Nat.reduceAdd, Nat.reduceSub, Nat.reduceLeDiff, false_implies, true_implies, not_false_eq_true, not_true_eq_false, and_true, mm_sh, hm, mjs_up_at, mjs_up_c, mjs_up_f]
            refine ry_at a2 (by omega) hJ trivial (fun J1 c1 => ?_)
            simp +decide only [mjs_0, mjs_1, mjs_2, mjs_3, mjs_ble, true_and, Bool.false_eq_true, if_false, if_true, Nat.reduceAdd, Nat.reduceSub, Nat.reduceLeDiff, false_implies, true_implies, not_false_eq_true, not_true_eq_false, and_true, mm_sh, hm, mjs_up_at, mjs_up_c, mjs_up_f]
            refine mj_blk rfl ?_
            simp +decide only [mjs_0, mjs_1, mjs_2, mjs_3, mjs_ble, true_and, Bool.false_eq_true, if_false, if_true, Nat.reduceAdd, Nat.reduceSub, Nat.reduceLeDiff, false_implies, true_implies, not_false_eq_true, not_true_eq_false, and_true, mm_sh, hm, mjs_up_at, mjs_up_c, mjs_up_f]
            refine r_157 (fun hh => absurd hh (by decide)) (fun _ => ?_)
            simp +decide only [mjs_0, mjs_1, mjs_2, mjs_3, mjs_ble, true_and, Bool.false_eq_true, if_false, if_true, Nat.reduceAdd, Nat.reduceSub, Nat.reduceLeDiff, false_implies, true_implies, not_false_eq_true, not_true_eq_false, and_true, mm_sh, hm, mjs_up_at, mjs_up_c, mjs_up_f]
            refine mj_blk rfl ?_
            simp +decide only [mjs_0, mjs_1, mjs_2, mjs_3, mjs_ble, true_and, Bool.false_eq_true, if_false, if_true, Nat.reduceAdd, Nat.reduceSub, Nat.reduceLeDiff, false_implies, true_implies, not_false_eq_true, not_true_eq_false, and_true, mm_sh, hm, mjs_up_at, mjs_up_c, mjs_up_f]
            refine ⟨fun _ => mj_blk rfl ?_, fun q => absurd (rd_ne c1) q⟩
            simp +decide only [mjs_0, mjs_1, mjs_2, mjs_3, mjs_ble, true_and, Bool.false_eq_true, if_false, if_true, Nat.reduceAdd, Nat.reduceSub, Nat.reduceLeDiff, false_implies, true_implies, not_false_eq_true, not_true_eq_false, and_true, mm_sh, hm, mjs_up_at, mjs_up_c, mjs_up_f]
            refine ⟨fun q => absurd q (rd_nle c1), fun _ => mj_blk rfl ?_⟩
            simp +decide only [mjs_0, mjs_1, mjs_2, mjs_3, mjs_ble, true_and, Bool.false_eq_true, if_false, if_true, Nat.reduceAdd, Nat.reduceSub, Nat.reduceLeDiff, false_implies, true_implies, not_false_eq_true, not_true_eq_false, and_true, mm_sh, hm, mjs_up_at, mjs_up_c, mjs_up_f]
            refine mj_blk rfl ?_
            simp +decide only [mjs_0, mjs_1, mjs_2, mjs_3, mjs_ble, true_and, Bool.false_eq_true, if_false, if_true, Nat.reduceAdd, Nat.reduceSub, Nat.reduceLeDiff, false_implies, true_implies, not_false_eq_true, not_true_eq_false, and_true, mm_sh, hm, mjs_up_at, mjs_up_c, mjs_up_f]
            exact hq J1 c1
        · have hgt : ¬ 10 * v + (t1 - 3120) ≤ 2147483647 := fun hh => q (ecmp.mpr hh)
          simp +decide only [mjs_0, mjs_1, mjs_2, mjs_3, mjs_ble, true_and, Bool.false_eq_true, if_false, if_true, Nat.reduceAdd, Nat.reduceSub, Nat.reduceLeDiff, false_implies, true_implies, not_false_eq_true, not_true_eq_false, and_true, mc_sh, hr, mjs_up_at, mjs_up_c, mjs_up_f]
          refine c_80 s59_1 hr' ?_
          simp +decide only [mjs_0, mjs_1, mjs_2, mjs_3, mjs_ble, true_and, Bool.false_eq_true, if_false, if_true, Nat.reduceAdd, Nat.reduceSub, Nat.reduceLeDiff, false_implies, true_implies, not_false_eq_true, not_true_eq_false, and_true]
          refine hQ3 _ _ (rc_f (fb := fb') hv' h') (ry_in (z := 5) (by decide) rfl rfl rfl (rm_f hM ?_))
          intro H Lg d nc ns J Q hJ hA hq
          obtain ⟨D, hD, hDk⟩ : ∃ D, d + (kr + 3) = D + 3 ∧ kr ≤ D := ⟨d + kr, by omega, by omega⟩
          rw [hD]
          try rw [hD] at hq
          refine r20 hJ (fun hh => absurd hh hgt) (fun _ => ?_)
          refine mj_blk rfl ?_
          simp +decide only [mjs_0, mjs_1, mjs_2, mjs_3, mjs_ble, true_and, Bool.false_eq_true, if_false, if_true, Nat.reduceAdd, Nat.reduceSub, Nat.reduceLeDiff, false_implies, true_implies, not_false_eq_true, not_true_eq_false, and_true, mm_sh, hm, mjs_up_at, mjs_up_c, mjs_up_f]
          refine c_106 s59_36 ?_
          rw [if_pos (rr_d hJ).1.2.2.2]
          have c1 := rr_f (f := 7) (by decide) (by decide) hJ
          simp +decide only [mjs_0, mjs_1, mjs_2, mjs_3, mjs_ble, true_and, Bool.false_eq_true, if_false, if_true, Nat.reduceAdd, Nat.reduceSub, Nat.reduceLeDiff, false_implies, true_implies, not_false_eq_true, not_true_eq_false, and_true, mm_sh, hm, mjs_up_at, mjs_up_c, mjs_up_f]
          refine mj_blk rfl ?_
          simp +decide only [mjs_0, mjs_1, mjs_2, mjs_3, mjs_ble, true_and, Bool.false_eq_true, if_false, if_true, Nat.reduceAdd, Nat.reduceSub, Nat.reduceLeDiff, false_implies, true_implies, not_false_eq_true, not_true_eq_false, and_true, mm_sh, hm, mjs_up_at, mjs_up_c, mjs_up_f]
          refine f_129 s59_36 (rd_nle c1) ?_
          simp +decide only [mjs_0, mjs_1, mjs_2, mjs_3, mjs_ble, true_and, Bool.false_eq_true, if_false, if_true, Nat.reduceAdd, Nat.reduceSub, Nat.reduceLeDiff, false_implies, true_implies, not_false_eq_true, not_true_eq_false, and_true, mm_sh, hm, mjs_up_at, mjs_up_c, mjs_up_f]
          refine mj_blk rfl ?_
          simp +decide only [mjs_0, mjs_1, mjs_2, mjs_3, mjs_ble, true_and, Bool.false_eq_true, if_false, if_true, Nat.reduceAdd, Nat.reduceSub, Nat.reduceLeDiff, false_implies, true_implies, not_false_eq_true, not_true_eq_false, and_true, mm_sh, hm, mjs_up_at, mjs_up_c, mjs_up_f]
          refine r_157 (fun hh => absurd hh (by decide)) (fun _ => ?_)
          simp +decide only [mjs_0, mjs_1, mjs_2, mjs_3, mjs_ble, true_and, Bool.false_eq_true, if_false, if_true, Nat.reduceAdd, Nat.reduceSub, Nat.reduceLeDiff, false_implies, true_implies, not_false_eq_true, not_true_eq_false, and_true, mm_sh, hm, mjs_up_at, mjs_up_c, mjs_up_f]
          refine mj_blk rfl ?_
          simp +decide only [mjs_0, mjs_1, mjs_2, mjs_3, mjs_ble, true_and, Bool.false_eq_true, if_false, if_true, Nat.reduceAdd, Nat.reduceSub, Nat.reduceLeDiff, false_implies, true_implies, not_false_eq_true, not_true_eq_false, and_true, mm_sh, hm, mjs_up_at, mjs_up_c, mjs_up_f]
          refine mj_blk rfl ?_
          simp +decide only [mjs_0, mjs_1, mjs_2, mjs_3, mjs_ble, true_and, Bool.false_eq_true, if_false, if_true, Nat.reduceAdd, Nat.reduceSub, Nat.reduceLeDiff, false_implies, true_implies, not_false_eq_true, not_true_eq_false, and_true, mm_sh, hm, mjs_up_at, mjs_up_c, mjs_up_f]
          refine mj_blk rfl ?_
          simp +decide only [mjs_0, mjs_1, mjs_2, mjs_3, mjs_ble, true_and, Bool.false_eq_true, if_false, if_true, Nat.reduceAdd, Nat.reduceSub, Nat.reduceLeDiff, false_implies, true_implies, not_false_eq_true, not_true_eq_false, and_true, mm_sh, hm, mjs_up_at, mjs_up_c, mjs_up_f]
          refine mj_blk rfl ?_
          simp +decide only [mjs_0, mjs_1, mjs_2, mjs_3, mjs_ble, true_and, Bool.false_eq_true, if_false, if_true, Nat.reduceAdd, Nat.reduceSub, Nat.reduceLeDiff, false_implies, true_implies, not_false_eq_true, not_true_eq_false, and_true, mm_sh, hm, mjs_up_at, mjs_up_c, mjs_up_f]
          exact hq _ c1
      · -- no digit: the number is read
        have ed := tdg_n hd
        have hl := dsp_len (o := o) (P := P')
        simp +decide only [mjs_0, mjs_1, mjs_2, mjs_3, mjs_ble, true_and, Bool.false_eq_true, if_false, if_true, Nat.reduceAdd, Nat.reduceSub, Nat.reduceLeDiff, false_implies, true_implies, not_false_eq_true, not_true_eq_false, and_true, ed]
        refine mj_blk rfl ?_
        simp +decide only [mjs_0, mjs_1, mjs_2, mjs_3, mjs_ble, true_and, Bool.false_eq_true, if_false, if_true, Nat.reduceAdd, Nat.reduceSub, Nat.reduceLeDiff, false_implies, true_implies, not_false_eq_true, not_true_eq_false, and_true, mc_sh]
        refine cq_41 (o := o) hR h' (fun u hu => by have := tv_lt hk (ho u hu); omega) (by omega) (fun I3 c3 => ?_)
        simp +decide only [mjs_0, mjs_1, mjs_2, mjs_3, mjs_ble, true_and, Bool.false_eq_true, if_false, if_true, Nat.reduceAdd, Nat.reduceSub, Nat.reduceLeDiff, false_implies, true_implies, not_false_eq_true, not_true_eq_false, and_true, lN_i]
        have hmu3 : mu K' (dsp o P') L' ≤ mu K (t :: P) L := by
          cases o with
          | none => exact hmu2 rfl
          | some u =>
            have := hmu1 (by simp)
            have := mu_len (K := K') (L := L') hl
            omega
        refine hQ1 fb' K' (dsp o P') N' S' C' L' I3 v (gv_dsp hv' ho) c3 (by omega) ⟨x1, x2, hmu3, x3, x4, x5⟩ hvv (rx_in (z := 5) (by decide) rfl rfl rfl (rm_e hM ?_))
        intro H Lg d nc ns J Q hJ hA hq
        obtain ⟨D, hD, hDk⟩ : ∃ D, d + (kr + 3) = D + 3 ∧ kr ≤ D := ⟨d + kr, by omega, by omega⟩
        rw [hD]
        try rw [hD] at hq
        refine mj_blk rfl ?_
        simp +decide only [mjs_0, mjs_1, mjs_2, mjs_3, mjs_ble, true_and, Bool.false_eq_true, if_false, if_true, Nat.reduceAdd, Nat.reduceSub, Nat.reduceLeDiff, false_implies, true_implies, not_false_eq_true, not_true_eq_false, and_true, mm_sh, hm, mjs_up_at, mjs_up_c, mjs_up_f]
        refine rq_157 hk hk1 ho (fun hh => absurd hh hd) (fun _ => ?_)
        simp +decide only [mjs_0, mjs_1, mjs_2, mjs_3, mjs_ble, true_and, Bool.false_eq_true, if_false, if_true, Nat.reduceAdd, Nat.reduceSub, Nat.reduceLeDiff, false_implies, true_implies, not_false_eq_true, not_true_eq_false, and_true, mm_sh, hm, mjs_up_at, mjs_up_c, mjs_up_f]
        refine mj_blk rfl ?_
        simp +decide only [mjs_0, mjs_1, mjs_2, mjs_3, mjs_ble, true_and, Bool.false_eq_true, if_false, if_true, Nat.reduceAdd, Nat.reduceSub, Nat.reduceLeDiff, false_implies, true_implies, not_false_eq_true, not_true_eq_false, and_true, mm_sh, hm, mjs_up_at, mjs_up_c, mjs_up_f, (rr_d hJ).1.2.2.2]
        refine mj_blk rfl ?_
        simp +decide only [mjs_0, mjs_1, mjs_2, mjs_3, mjs_ble, true_and, Bool.false_eq_true, if_false, if_true, Nat.reduceAdd, Nat.reduceSub, Nat.reduceLeDiff, false_implies, true_implies, not_false_eq_true, not_true_eq_false, and_true, mm_sh, hm, mjs_up_at, mjs_up_c, mjs_up_f]
        refine rq_dsp hk hk1 ho hM' hJ (by omega) (fun _ _ c4 => ?_) (fun hp => ?_)
        · simp +decide only [mjs_0, mjs_1, mjs_2, mjs_3, mjs_ble, true_and, Bool.false_eq_true, if_false, if_true, Nat.reduceAdd, Nat.reduceSub, Nat.reduceLeDiff, false_implies, true_implies, not_false_eq_true, not_true_eq_false, and_true, mm_sh, hm, mjs_up_at, mjs_up_c, mjs_up_f]
          refine mj_blk rfl ?_
          simp +decide only [mjs_0, mjs_1, mjs_2, mjs_3, mjs_ble, true_and, Bool.false_eq_true, if_false, if_true, Nat.reduceAdd, Nat.reduceSub, Nat.reduceLeDiff, false_implies, true_implies, not_false_eq_true, not_true_eq_false, and_true, mm_sh, hm, mjs_up_at, mjs_up_c, mjs_up_f, (rr_d hJ).1.2.2.2]
          refine mj_blk rfl ?_
          simp +decide only [mjs_0, mjs_1, mjs_2, mjs_3, mjs_ble, true_and, Bool.false_eq_true, if_false, if_true, Nat.reduceAdd, Nat.reduceSub, Nat.reduceLeDiff, false_implies, true_implies, not_false_eq_true, not_true_eq_false, and_true, mm_sh, hm, mjs_up_at, mjs_up_c, mjs_up_f, lN_i]
          refine mj_blk rfl ?_
          simp +decide only [mjs_0, mjs_1, mjs_2, mjs_3, mjs_ble, true_and, Bool.false_eq_true, if_false, if_true, Nat.reduceAdd, Nat.reduceSub, Nat.reduceLeDiff, false_implies, true_implies, not_false_eq_true, not_true_eq_false, and_true, mm_sh, hm, mjs_up_at, mjs_up_c, mjs_up_f]
          exact hq H J hx_rf c4 trivial
        · simp +decide only [mjs_0, mjs_1, mjs_2, mjs_3, mjs_ble, true_and, Bool.false_eq_true, if_false, if_true, Nat.reduceAdd, Nat.reduceSub, Nat.reduceLeDiff, false_implies, true_implies, not_false_eq_true, not_true_eq_false, and_true, mm_sh, hm, mjs_up_at, mjs_up_c, mjs_up_f]
          refine mj_blk rfl ?_
          simp +decide only [mjs_0, mjs_1, mjs_2, mjs_3, mjs_ble, true_and, Bool.false_eq_true, if_false, if_true, Nat.reduceAdd, Nat.reduceSub, Nat.reduceLeDiff, false_implies, true_implies, not_false_eq_true, not_true_eq_false, and_true, mm_sh, hm, mjs_up_at, mjs_up_c, mjs_up_f]
          refine hp _ _ (fun J2 c4 => ?_)
          simp +decide only [mjs_0, mjs_1, mjs_2, mjs_3, mjs_ble, true_and, Bool.false_eq_true, if_false, if_true, Nat.reduceAdd, Nat.reduceSub, Nat.reduceLeDiff, false_implies, true_implies, not_false_eq_true, not_true_eq_false, and_true, mm_sh, hm, mjs_up_at, mjs_up_c, mjs_up_f]
          refine mj_blk rfl ?_
          simp +decide only [mjs_0, mjs_1, mjs_2, mjs_3, mjs_ble, true_and, Bool.false_eq_true, if_false, if_true, Nat.reduceAdd, Nat.reduceSub, Nat.reduceLeDiff, false_implies, true_implies, not_false_eq_true, not_true_eq_false, and_true, mm_sh, hm, mjs_up_at, mjs_up_c, mjs_up_f, (rr_d c4).1.2.2.2]
          refine mj_blk rfl ?_
          simp +decide only [mjs_0, mjs_1, mjs_2, mjs_3, mjs_ble, true_and, Bool.false_eq_true, if_false, if_true, Nat.reduceAdd, Nat.reduceSub, Nat.reduceLeDiff, false_implies, true_implies, not_false_eq_true, not_true_eq_false, and_true, mm_sh, hm, mjs_up_at, mjs_up_c, mjs_up_f, lN_i]
          refine mj_blk rfl ?_
          simp +decide only [mjs_0, mjs_1, mjs_2, mjs_3, mjs_ble, true_and, Bool.false_eq_true, if_false, if_true, Nat.reduceAdd, Nat.reduceSub, Nat.reduceLeDiff, false_implies, true_implies, not_false_eq_true, not_true_eq_false, and_true, mm_sh, hm, mjs_up_at, mjs_up_c, mjs_up_f]
          exact hq H J2 hx_rf c4 trivial
  have ht2 : ov N.2.2 (some t) := fun u hu => by cases hu; exact ht
  have htl := tv_lt (gv_d hv).2.2.1.2.1 ht
  refine mj_enter (z := (7, [], mb_40)) (by decide) rfl rfl ?_
  refine mj_blk rfl ?_
  simp +decide only [mjs_0, mjs_1, mjs_2, mjs_3, mjs_ble, true_and, Bool.false_eq_true, if_false, if_true, Nat.reduceAdd, Nat.reduceSub, Nat.reduceLeDiff, false_implies, true_implies, not_false_eq_true, not_true_eq_false, and_true]
  refine cq_191 (o := some t) (fun u hu => by cases hu; omega) ?_
  simp +decide only [mjs_0, mjs_1, mjs_2, mjs_3, mjs_ble, true_and, Bool.false_eq_true, if_false, if_true, Nat.reduceAdd, Nat.reduceSub, Nat.reduceLeDiff, false_implies, true_implies, not_false_eq_true, not_true_eq_false, and_true]
  refine mj_nv (loop (mu K P L) 0 0 (some t) fb K P N S C L I (Nat.le_refl _) (by omega) (by decide) hv h hp ⟨nx_rf, ⟨Nat.le_refl _, rfl⟩, Nat.le_refl _, sx_rf, cx_rf⟩ (fun _ => ?_) (fun hh => by cases hh) ht2 ?_)
  · unfold mu
    rw [List.length_cons]
    omega
  · intro H Lg d nc ns J Q hJ hA hq
    obtain ⟨D, hD, hDk⟩ : ∃ D, d + (kr + 3) = D + 3 ∧ kr ≤ D := ⟨d + kr, by omega, by omega⟩
    rw [hD]
    try rw [hD] at hq
    refine mj_blk rfl ?_
    simp +decide only [mjs_0, mjs_1, mjs_2, mjs_3, mjs_ble, true_and, Bool.false_eq_true, if_false, if_true, Nat.reduceAdd, Nat.reduceSub, Nat.reduceLeDiff, false_implies, true_implies, not_false_eq_true, not_true_eq_false, and_true, mm_sh, hm, mjs_up_at, mjs_up_c, mjs_up_f]
    exact mj_nv (hq H J hx_rf hJ trivial)
end MJDI
