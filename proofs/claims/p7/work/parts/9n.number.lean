/-! A NUMBER READ, in both -/
theorem rt_c {k t c : Nat} (hk : k ≤ 1036) (h3 : 36 ≤ k) (ht : tv k t) (hc : c < 3328) : nI (rt t) = nI c ↔ t = c := by
  have hl := rt_lt hk h3 ht
  rw [nI_eq (by omega) (by omega)]
  constructor
  · intro h
    by_cases h1 : t < 3328
    · have : rt t = t := by
        unfold rt rb
        rw [if_neg (by omega), if_pos h1]
      omega
    · have e := rt_cg hk h3 ht (c := c / 256) (by omega)
      have h2 := e.mp (by rw [h])
      unfold cg at h2
      rw [if_neg h1] at h2
      omega
  · intro h
    subst h
    unfold rt rb
    rw [if_neg (by omega), if_pos hc]
/-- spaces and signs -/
def iss (t : Nat) : Prop := t = 3115 ∨ t = 3117 ∨ t / 256 = 10
def sgn (neg t : Nat) : Nat := if t = 3117 then 1 - neg else neg
section MJNU
variable {X : mj_X} {d nc ns : Nat} {Q : mj_Q} {I I' J J' H : Nat → Nat → Int32} {Lg : Nat → Nat → Int64} {Rf : Nat → Nat → Option Nat} {fb fb' : Nat → Nat → Int32} {vb : Nat → Int32} {K K' K'' : Nat × Nat × Nat} {P P' P'' : List Nat} {E : sgE} {N N' N'' : sgN} {S S' S'' : sgS} {M : sgM} {C C' C'' : sgC} {O : sgO} {L L' L'' : sgL} {t n kc kr dp neg : Nat} {o : Option Nat} {g0 : sg}
theorem cq_39 {S' : mj_S} (ht : t < 2 ^ 31) (hQ1 : iss t → Q (.inl (some (.int 1))) S') (hQ0 : ¬ iss t → Q (.inl (some (.int 0))) S') : mj_call X mj_P (mj_bi X) (d + 3) 39 [.int (nI t)] S' Q := by
  have one : iss t → mj_rn X (mj_hd []) (mj_call X mj_P (mj_bi X) (d + 2)) mb_39 21 [none] [] S' Q := by
    intro hh
    refine mj_blk rfl ?_
    simp +decide only [mjs_0, mjs_1, mjs_2, mjs_3, mjs_ble, true_and, Bool.false_eq_true, if_false, if_true, Nat.reduceAdd, Nat.reduceSub, Nat.reduceLeDiff, false_implies, true_implies, not_false_eq_true, not_true_eq_false, and_true]
    refine mj_blk rfl ?_
    simp +decide only [mjs_0, mjs_1, mjs_2, mjs_3, mjs_ble, true_and, Bool.false_eq_true, if_false, if_true, Nat.reduceAdd, Nat.reduceSub, Nat.reduceLeDiff, false_implies, true_implies, not_false_eq_true, not_true_eq_false, and_true]
    exact hQ1 hh
  refine mj_enter (z := (1, [], mb_39)) (by decide) rfl rfl ?_
  refine mj_blk rfl ?_
  simp +decide only [mjs_0, mjs_1, mjs_2, mjs_3, mjs_ble, true_and, Bool.false_eq_true, if_false, if_true, Nat.reduceAdd, Nat.reduceSub, Nat.reduceLeDiff, false_implies, true_implies, not_false_eq_true, not_true_eq_false, and_true]
  by_cases e1 : t = 3115
  · exact ⟨fun _ => mj_nv (one (Or.inl e1)), fun q => absurd (by rw [e1]; rfl) q⟩
  · refine ⟨fun q => absurd ((nI_eq (b := 3115) ht (by decide)).mp q) e1, fun _ => mj_blk rfl ?_⟩
    simp +decide only [mjs_0, mjs_1, mjs_2, mjs_3, mjs_ble, true_and, Bool.false_eq_true, if_false, if_true, Nat.reduceAdd, Nat.reduceSub, Nat.reduceLeDiff, false_implies, true_implies, not_false_eq_true, not_true_eq_false, and_true]
    by_cases e2 : t = 3117
    · exact ⟨fun _ => mj_nv (one (Or.inr (Or.inl e2))), fun q => absurd (by rw [e2]; rfl) q⟩
    · refine ⟨fun q => absurd ((nI_eq (b := 3117) ht (by decide)).mp q) e2, fun _ => mj_blk rfl ?_⟩
      simp +decide only [mjs_0, mjs_1, mjs_2, mjs_3, mjs_ble, true_and, Bool.false_eq_true, if_false, if_true, Nat.reduceAdd, Nat.reduceSub, Nat.reduceLeDiff, false_implies, true_implies, not_false_eq_true, not_true_eq_false, and_true]
      refine c_190 ht ?_
      by_cases e3 : t / 256 = 10
      · rw [if_pos e3]
        simp +decide only [mjs_0, mjs_1, mjs_2, mjs_3, mjs_ble, true_and, Bool.false_eq_true, if_false, if_true, Nat.reduceAdd, Nat.reduceSub, Nat.reduceLeDiff, false_implies, true_implies, not_false_eq_true, not_true_eq_false, and_true]
        exact mj_nv (one (Or.inr (Or.inr e3)))
      · rw [if_neg e3]
        simp +decide only [mjs_0, mjs_1, mjs_2, mjs_3, mjs_ble, true_and, Bool.false_eq_true, if_false, if_true, Nat.reduceAdd, Nat.reduceSub, Nat.reduceLeDiff, false_implies, true_implies, not_false_eq_true, not_true_eq_false, and_true]
        refine mj_blk rfl ?_
        simp +decide only [mjs_0, mjs_1, mjs_2, mjs_3, mjs_ble, true_and, Bool.false_eq_true, if_false, if_true, Nat.reduceAdd, Nat.reduceSub, Nat.reduceLeDiff, false_implies, true_implies, not_false_eq_true, not_true_eq_false, and_true]
        refine mj_blk rfl ?_
        simp +decide only [mjs_0, mjs_1, mjs_2, mjs_3, mjs_ble, true_and, Bool.false_eq_true, if_false, if_true, Nat.reduceAdd, Nat.reduceSub, Nat.reduceLeDiff, false_implies, true_implies, not_false_eq_true, not_true_eq_false, and_true]
        exact hQ0 (fun hh => by rcases hh with hh | hh | hh <;> contradiction)
def p_7 (neg : Nat) (x : Int32) : mj_LV := [some (.ref 36), some (.int (nI neg)), some (.int x), none]
/-- the reference's test for spaces and signs -/
theorem r_162t (hM' : mj_Rt mm_R Rf) {D kk : Nat} (hk : kk ≤ 1036) (h3 : 36 ≤ kk) (ht : tv kk t) (hneg : neg ≤ 1) {S' : mj_S} (hq1 : iss t → mj_rn X (mj_hd []) (mj_call X mj_P (mj_bi X) (D + 2)) mb_162 55 [some (.ref 36), none, none, none] [.int (nI (sgn neg t))] S' Q) (hq0 : ¬ iss t → mj_rn X (mj_hd []) (mj_call X mj_P (mj_bi X) (D + 2)) mb_162 64 (p_7 neg (nI (rt t))) [] S' Q) : mj_rn X (mj_hd []) (mj_call X mj_P (mj_bi X) (D + 2)) mb_162 7 (p_7 neg (nI (rt t))) [] S' Q := by
  have hm := mm_rf hM'
  have c43 := rt_c hk h3 ht (c := 3115) (by decide)
  have c45 := rt_c hk h3 ht (c := 3117) (by decide)
  have yes : iss t → mj_rn X (mj_hd []) (mj_call X mj_P (mj_bi X) (D + 2)) mb_162 38 (p_7 neg (nI (rt t))) [] S' Q := by
    intro hh
    have hq := hq1 hh
    unfold sgn at hq
    unfold p_7
    refine mj_blk rfl ?_
    simp +decide only [mjs_0, mjs_1, mjs_2, mjs_3, mjs_ble, true_and, Bool.false_eq_true, if_false, if_true, Nat.reduceAdd, Nat.reduceSub, Nat.reduceLeDiff, false_implies, true_implies, not_false_eq_true, not_true_eq_false, and_true]
    refine r_120 (a := 12) (b := 45) ?_
    by_cases e : t = 3117
    · rw [if_pos (c45.mpr e)]
      rw [if_pos e] at hq
      have : neg = 0 ∨ neg = 1 := by omega
      rcases this with rfl | rfl
      · simp +decide only [mjs_0, mjs_1, mjs_2, mjs_3, mjs_ble, true_and, Bool.false_eq_true, if_false, if_true, Nat.reduceAdd, Nat.reduceSub, Nat.reduceLeDiff, false_implies, true_implies, not_false_eq_true, not_true_eq_false, and_true]
        refine mj_blk rfl ?_
        simp +decide only [mjs_0, mjs_1, mjs_2, mjs_3, mjs_ble, true_and, Bool.false_eq_true, if_false, if_true, Nat.reduceAdd, Nat.reduceSub, Nat.reduceLeDiff, false_implies, true_implies, not_false_eq_true, not_true_eq_false, and_true]
        exact mj_nv hq
      · simp +decide only [mjs_0, mjs_1, mjs_2, mjs_3, mjs_ble, true_and, Bool.false_eq_true, if_false, if_true, Nat.reduceAdd, Nat.reduceSub, Nat.reduceLeDiff, false_implies, true_implies, not_false_eq_true, not_true_eq_false, and_true]
        refine mj_blk rfl ?_
        simp +decide only [mjs_0, mjs_1, mjs_2, mjs_3, mjs_ble, true_and, Bool.false_eq_true, if_false, if_true, Nat.reduceAdd, Nat.reduceSub, Nat.reduceLeDiff, false_implies, true_implies, not_false_eq_true, not_true_eq_false, and_true]
        exact mj_nv hq
    · rw [if_neg (fun q => e (c45.mp q))]
      rw [if_neg e] at hq
      have : neg = 0 ∨ neg = 1 := by omega
      rcases this with rfl | rfl
      · simp +decide only [mjs_0, mjs_1, mjs_2, mjs_3, mjs_ble, true_and, Bool.false_eq_true, if_false, if_true, Nat.reduceAdd, Nat.reduceSub, Nat.reduceLeDiff, false_implies, true_implies, not_false_eq_true, not_true_eq_false, and_true]
        refine mj_blk rfl ?_
        simp +decide only [mjs_0, mjs_1, mjs_2, mjs_3, mjs_ble, true_and, Bool.false_eq_true, if_false, if_true, Nat.reduceAdd, Nat.reduceSub, Nat.reduceLeDiff, false_implies, true_implies, not_false_eq_true, not_true_eq_false, and_true]
        exact mj_nv hq
      · simp +decide only [mjs_0, mjs_1, mjs_2, mjs_3, mjs_ble, true_and, Bool.false_eq_true, if_false, if_true, Nat.reduceAdd, Nat.reduceSub, Nat.reduceLeDiff, false_implies, true_implies, not_false_eq_true, not_true_eq_false, and_true]
        refine mj_blk rfl ?_
        simp +decide only [mjs_0, mjs_1, mjs_2, mjs_3, mjs_ble, true_and, Bool.false_eq_true, if_false, if_true, Nat.reduceAdd, Nat.reduceSub, Nat.reduceLeDiff, false_implies, true_implies, not_false_eq_true, not_true_eq_false, and_true]
        exact mj_nv hq
  unfold p_7 at yes hq0 ⊢
  refine mj_blk rfl ?_
  simp +decide only [mjs_0, mjs_1, mjs_2, mjs_3, mjs_ble, true_and, Bool.false_eq_true, if_false, if_true, Nat.reduceAdd, Nat.reduceSub, Nat.reduceLeDiff, false_implies, true_implies, not_false_eq_true, not_true_eq_false, and_true]
  refine rq_121 (c := 10) hk h3 ht (by decide) (fun e => ?_) (fun e => ?_)
  · simp +decide only [mjs_0, mjs_1, mjs_2, mjs_3, mjs_ble, true_and, Bool.false_eq_true, if_false, if_true, Nat.reduceAdd, Nat.reduceSub, Nat.reduceLeDiff, false_implies, true_implies, not_false_eq_true, not_true_eq_false, and_true]
    exact mj_nv (yes (Or.inr (Or.inr ((cg_10 ht).mpr e))))
  · simp +decide only [mjs_0, mjs_1, mjs_2, mjs_3, mjs_ble, true_and, Bool.false_eq_true, if_false, if_true, Nat.reduceAdd, Nat.reduceSub, Nat.reduceLeDiff, false_implies, true_implies, not_false_eq_true, not_true_eq_false, and_true]
    refine mj_blk rfl ?_
    simp +decide only [mjs_0, mjs_1, mjs_2, mjs_3, mjs_ble, true_and, Bool.false_eq_true, if_false, if_true, Nat.reduceAdd, Nat.reduceSub, Nat.reduceLeDiff, false_implies, true_implies, not_false_eq_true, not_true_eq_false, and_true]
    refine r_120 (a := 12) (b := 43) ?_
    by_cases e1 : t = 3115
    · rw [if_pos (c43.mpr e1)]
      simp +decide only [mjs_0, mjs_1, mjs_2, mjs_3, mjs_ble, true_and, Bool.false_eq_true, if_false, if_true, Nat.reduceAdd, Nat.reduceSub, Nat.reduceLeDiff, false_implies, true_implies, not_false_eq_true, not_true_eq_false, and_true]
      exact mj_nv (yes (Or.inl e1))
    · rw [if_neg (fun q => e1 (c43.mp q))]
      simp +decide only [mjs_0, mjs_1, mjs_2, mjs_3, mjs_ble, true_and, Bool.false_eq_true, if_false, if_true, Nat.reduceAdd, Nat.reduceSub, Nat.reduceLeDiff, false_implies, true_implies, not_false_eq_true, not_true_eq_false, and_true]
      refine mj_blk rfl ?_
      simp +decide only [mjs_0, mjs_1, mjs_2, mjs_3, mjs_ble, true_and, Bool.false_eq_true, if_false, if_true, Nat.reduceAdd, Nat.reduceSub, Nat.reduceLeDiff, false_implies, true_implies, not_false_eq_true, not_true_eq_false, and_true]
      refine r_120 (a := 12) (b := 45) ?_
      by_cases e2 : t = 3117
      · rw [if_pos (c45.mpr e2)]
        simp +decide only [mjs_0, mjs_1, mjs_2, mjs_3, mjs_ble, true_and, Bool.false_eq_true, if_false, if_true, Nat.reduceAdd, Nat.reduceSub, Nat.reduceLeDiff, false_implies, true_implies, not_false_eq_true, not_true_eq_false, and_true]
        exact mj_nv (yes (Or.inr (Or.inl e2)))
      · rw [if_neg (fun q => e2 (c45.mp q))]
        simp +decide only [mjs_0, mjs_1, mjs_2, mjs_3, mjs_ble, true_and, Bool.false_eq_true, if_false, if_true, Nat.reduceAdd, Nat.reduceSub, Nat.reduceLeDiff, false_implies, true_implies, not_false_eq_true, not_true_eq_false, and_true]
        exact mj_nv (hq0 (fun hh => by
          rcases hh with hh | hh | hh
          · exact e1 hh
          · exact e2 hh
          · exact e ((cg_10 ht).mp hh)))
theorem f_133 (hM' : mj_Rt mm_R Rf) {D : Nat} {x : Int32} {g' : sg} (hJ : RD H g' J) (hq : ∀ J', RD H g' J' → Q (.inl (some (.int 0))) (sh59, J', Lg, Rf, nc, ns)) : mj_rn X (mj_hd []) (mj_call X mj_P (mj_bi X) (D + 2)) mb_162 133 [some (.ref 36), some (.int (nI neg)), none, some (.int x)] [] (sh59, J, Lg, Rf, nc, ns) Q := by
  have hm := mm_rf hM'
  refine mj_blk rfl ?_
  simp +decide only [mjs_0, mjs_1, mjs_2, mjs_3, mjs_ble, true_and, Bool.false_eq_true, if_false, if_true, Nat.reduceAdd, Nat.reduceSub, Nat.reduceLeDiff, false_implies, true_implies, not_false_eq_true, not_true_eq_false, and_true, mm_sh, hm, mjs_up_at, mjs_up_c, mjs_up_f]
  refine ⟨fun q => absurd q (rd_nle hJ), fun _ => mj_blk rfl ?_⟩
  simp +decide only [mjs_0, mjs_1, mjs_2, mjs_3, mjs_ble, true_and, Bool.false_eq_true, if_false, if_true, Nat.reduceAdd, Nat.reduceSub, Nat.reduceLeDiff, false_implies, true_implies, not_false_eq_true, not_true_eq_false, and_true, mm_sh, hm, mjs_up_at, mjs_up_c, mjs_up_f]
  refine mj_blk rfl ?_
  simp +decide only [mjs_0, mjs_1, mjs_2, mjs_3, mjs_ble, true_and, Bool.false_eq_true, if_false, if_true, Nat.reduceAdd, Nat.reduceSub, Nat.reduceLeDiff, false_implies, true_implies, not_false_eq_true, not_true_eq_false, and_true, mm_sh, hm, mjs_up_at, mjs_up_c, mjs_up_f]
  exact hq J hJ
theorem neg_ne {x : Int32} (h : x ≠ -2147483648) : -x ≠ -2147483648 := fun q => h (by
  have := congrArg (fun y : Int32 => -y) q
  simp only [Int32.neg_neg] at this
  rw [this]
  decide)
theorem nu_s (hR : mj_Rt mp_R Rf) (hM' : mj_Rt mm_R Rf) (hX : XD X Rf vb kc kr n) (hN : NU X Rf vb kc kr n) : NU X Rf vb (kc + 10) (kr + 13) (n + 1) := by
  have hr := mc_rf hR
  have hm := mm_rf hM'
  intro fb K P E N S M C O L nc ns Lg I Q D hD hn hr' hv hw hp h hQ1 hQ3
  obtain ⟨d, rfl⟩ : ∃ d, D = d + 10 := ⟨D - 10, by omega⟩
  have hk40 : K.2.2 < 40 := by omega
  have k3 : I 1 3 = nI K.2.2 := (rc_d h).1.2.2.1
  have k5 := (rc_d h).1.2.2.2
  have hEv := (gv_d hv).2.1
  have hv1 : gv ((K.1, K.2.1, K.2.2 + 1), P, E, N, S, M, C, O, L) := gv_K hv (em_vm hEv (Nat.le_succ _))
  have hw1 : gw (K.1, K.2.1, K.2.2 + 1) S := hw
  have h1 := rc_K (dp := K.2.2 + 1) h (by omega)
  have hn1 : K.2.2 + 1 + n = 40 := by omega
  have hmu0 := mu_le (K := K) (P := P) (L := L) k5.2.1 hp (tl_le (gv_d hv).2.2.2.2.2.2.2)
  have qF : ∀ g' I', RCf fb vb g' I' → RMf X Rf mb_162 (kr + 10) 0 [some (.ref 36), none, none, none] [] ((K.1, K.2.1, K.2.2 + 1), P, E, N, S, M, C, O, L) na (some (.int 0)) g' → Q (.inr 500) (sh59, I', Lg, Rf, nc + 1, ns + 6) := fun g' I' a1 a2 => hQ3 g' I' a1 (ry_161 hM' hk40 (ry_in (z := 4) (by decide) rfl rfl rfl a2))
  -- the end: the sign
  have fin : ∀ (fb2 : Nat → Nat → Int32) (K2 : Nat × Nat × Nat) (P2 : List Nat) (N2 : sgN) (S2 : sgS) (C2 : sgC) (L2 : sgL) (I2 : Nat → Nat → Int32) (x : Int32) (neg : Nat), gv (K2, P2, E, N2, S2, M, C2, O, L2) → RC fb2 vb (K2, P2, E, N2, S2, M, C2, O, L2) I2 → P2.length ≤ 10000 → xs (K.1, K.2.1, K.2.2 + 1) P N S C L K2 P2 N2 S2 C2 L2 → x ≠ -2147483648 → neg ≤ 1 → RM X Rf mb_162 (kr + 10) 0 [some (.ref 36), none, none, none] [] ((K.1, K.2.1, K.2.2 + 1), P, E, N, S, M, C, O, L) na 133 [some (.ref 36), some (.int (nI neg)), none, some (.int x)] [] (K2, P2, E, N2, S2, M, C2, O, L2) na → mj_rn X (mj_hd []) (mj_call X mj_P (mj_bi X) (d + 9)) mb_38 111 [some (.ref 28), some (.int (nI neg)), none, some (.int x)] [] (sh59, I2, Lg, Rf, nc, ns) Q := by
    intro fb2 K2 P2 N2 S2 C2 L2 I2 x neg a1 a2 a3 a4 a5 a6 hM
    have hK2 := a4.2.1.2
    have i3 : I2 1 3 = nI (K.2.2 + 1) := by
      have := (rc_d a2).1.2.2.1
      rw [hK2] at this
      exact this
    have hK3 : (K2.2.1, K.2.2) = K.2 := by
      rw [hK2]
    have done : ∀ y : Int32, y ≠ -2147483648 → RMe X Rf mb_162 (kr + 10) 0 [some (.ref 36), none, none, none] [] ((K.1, K.2.1, K.2.2 + 1), P, E, N, S, M, C, O, L) na (some (.int y)) (K2, P2, E, N2, S2, M, C2, O, L2) na → Q (.inl (some (.int y))) (sh59, mj_up I2 1 3 (nI K.2.2), Lg, Rf, nc, ns) := by
      intro y hy hme
      refine hQ1 fb2 (K2.1, K2.2.1, K.2.2) P2 N2 S2 C2 L2 _ y (gv_K a1 hEv) (rc_K a2 (by omega)) a3 ⟨a4.1, ⟨a4.2.1.1, hK3⟩, a4.2.2.1, a4.2.2.2.1, a4.2.2.2.2.1, a4.2.2.2.2.2⟩ hy ?_
      exact rx_161 hM' hk40 hK2 (rx_in (z := 4) (by decide) rfl rfl rfl hme)
    refine mj_blk rfl ?_
    simp +decide only [mjs_0, mjs_1, mjs_2, mjs_3, mjs_ble, true_and, Bool.false_eq_true, if_false, if_true, Nat.reduceAdd, Nat.reduceSub, Nat.reduceLeDiff, false_implies, true_implies, not_false_eq_true, not_true_eq_false, and_true, mc_sh, hr, mjs_up_at, mjs_up_c, mjs_up_f]
    refine c_79 i3 ?_
    have : neg = 0 ∨ neg = 1 := by omega
    rcases this with rfl | rfl
    · simp +decide only [mjs_0, mjs_1, mjs_2, mjs_3, mjs_ble, true_and, Bool.false_eq_true, if_false, if_true, Nat.reduceAdd, Nat.reduceSub, Nat.reduceLeDiff, false_implies, true_implies, not_false_eq_true, not_true_eq_false, and_true]
      refine mj_blk rfl ?_
      simp +decide only [mjs_0, mjs_1, mjs_2, mjs_3, mjs_ble, true_and, Bool.false_eq_true, if_false, if_true, Nat.reduceAdd, Nat.reduceSub, Nat.reduceLeDiff, false_implies, true_implies, not_false_eq_true, not_true_eq_false, and_true]
      refine mj_blk rfl ?_
      simp +decide only [mjs_0, mjs_1, mjs_2, mjs_3, mjs_ble, true_and, Bool.false_eq_true, if_false, if_true, Nat.reduceAdd, Nat.reduceSub, Nat.reduceLeDiff, false_implies, true_implies, not_false_eq_true, not_true_eq_false, and_true]
      refine done x a5 (rm_e hM ?_)
      intro H Lg d nc ns J Q hJ hA hq
      obtain ⟨D, hD, hDk⟩ : ∃ D, d + (kr + 10) = D + 10 ∧ kr ≤ D := ⟨d + kr, by omega, by omega⟩
      rw [hD]
      try rw [hD] at hq
      refine mj_blk rfl ?_
      simp +decide only [mjs_0, mjs_1, mjs_2, mjs_3, mjs_ble, true_and, Bool.false_eq_true, if_false, if_true, Nat.reduceAdd, Nat.reduceSub, Nat.reduceLeDiff, false_implies, true_implies, not_false_eq_true, not_true_eq_false, and_true, mm_sh, hm, mjs_up_at, mjs_up_c, mjs_up_f, (rr_d hJ).1.2.2.2]
      refine mj_blk rfl ?_
      simp +decide only [mjs_0, mjs_1, mjs_2, mjs_3, mjs_ble, true_and, Bool.false_eq_true, if_false, if_true, Nat.reduceAdd, Nat.reduceSub, Nat.reduceLeDiff, false_implies, true_implies, not_false_eq_true, not_true_eq_false, and_true, mm_sh, hm, mjs_up_at, mjs_up_c, mjs_up_f]
      refine mj_blk rfl ?_
      simp +decide only [mjs_0, mjs_1, mjs_2, mjs_3, mjs_ble, true_and, Bool.false_eq_true, if_false, if_true, Nat.reduceAdd, Nat.reduceSub, Nat.reduceLeDiff, false_implies, true_implies, not_false_eq_true, not_true_eq_false, and_true, mm_sh, hm, mjs_up_at, mjs_up_c, mjs_up_f]
      refine mj_blk rfl ?_
      simp +decide only [mjs_0, mjs_1, mjs_2, mjs_3, mjs_ble, true_and, Bool.false_eq_true, if_false, if_true, Nat.reduceAdd, Nat.reduceSub, Nat.reduceLeDiff, false_implies, true_implies, not_false_eq_true, not_true_eq_false, and_true, mm_sh, hm, mjs_up_at, mjs_up_c, mjs_up_f]
      exact hq H J hx_rf hJ trivial
    · simp +decide only [mjs_0, mjs_1, mjs_2, mjs_3, mjs_ble, true_and, Bool.false_eq_true, if_false, if_true, Nat.reduceAdd, Nat.reduceSub, Nat.reduceLeDiff, false_implies, true_implies, not_false_eq_true, not_true_eq_false, and_true]
      refine mj_blk rfl ?_
      simp +decide only [mjs_0, mjs_1, mjs_2, mjs_3, mjs_ble, true_and, Bool.false_eq_true, if_false, if_true, Nat.reduceAdd, Nat.reduceSub, Nat.reduceLeDiff, false_implies, true_implies, not_false_eq_true, not_true_eq_false, and_true]
      refine mj_blk rfl ?_
      simp +decide only [mjs_0, mjs_1, mjs_2, mjs_3, mjs_ble, true_and, Bool.false_eq_true, if_false, if_true, Nat.reduceAdd, Nat.reduceSub, Nat.reduceLeDiff, false_implies, true_implies, not_false_eq_true, not_true_eq_false, and_true]
      refine done (-x) (neg_ne a5) (rm_e hM ?_)
      intro H Lg d nc ns J Q hJ hA hq
      obtain ⟨D, hD, hDk⟩ : ∃ D, d + (kr + 10) = D + 10 ∧ kr ≤ D := ⟨d + kr, by omega, by omega⟩
      rw [hD]
      try rw [hD] at hq
      refine mj_blk rfl ?_
      simp +decide only [mjs_0, mjs_1, mjs_2, mjs_3, mjs_ble, true_and, Bool.false_eq_true, if_false, if_true, Nat.reduceAdd, Nat.reduceSub, Nat.reduceLeDiff, false_implies, true_implies, not_false_eq_true, not_true_eq_false, and_true, mm_sh, hm, mjs_up_at, mjs_up_c, mjs_up_f, (rr_d hJ).1.2.2.2]
      refine mj_blk rfl ?_
      simp +decide only [mjs_0, mjs_1, mjs_2, mjs_3, mjs_ble, true_and, Bool.false_eq_true, if_false, if_true, Nat.reduceAdd, Nat.reduceSub, Nat.reduceLeDiff, false_implies, true_implies, not_false_eq_true, not_true_eq_false, and_true, mm_sh, hm, mjs_up_at, mjs_up_c, mjs_up_f]
      refine mj_blk rfl ?_
      simp +decide only [mjs_0, mjs_1, mjs_2, mjs_3, mjs_ble, true_and, Bool.false_eq_true, if_false, if_true, Nat.reduceAdd, Nat.reduceSub, Nat.reduceLeDiff, false_implies, true_implies, not_false_eq_true, not_true_eq_false, and_true, mm_sh, hm, mjs_up_at, mjs_up_c, mjs_up_f]
      refine mj_blk rfl ?_
      simp +decide only [mjs_0, mjs_1, mjs_2, mjs_3, mjs_ble, true_and, Bool.false_eq_true, if_false, if_true, Nat.reduceAdd, Nat.reduceSub, Nat.reduceLeDiff, false_implies, true_implies, not_false_eq_true, not_true_eq_false, and_true, mm_sh, hm, mjs_up_at, mjs_up_c, mjs_up_f]
      exact hq H J hx_rf hJ trivial
  -- the loop over spaces and signs
  have loop : ∀ (m i t neg : Nat) (fb' : Nat → Nat → Int32) (K' : Nat × Nat × Nat) (P' : List Nat) (N' : sgN) (S' : sgS) (C' : sgC) (L' : sgL) (I' : Nat → Nat → Int32), mu K' P' L' ≤ m → i + m ≤ 700000000 → neg ≤ 1 → gv (K', P', E, N', S', M, C', O, L') → RC fb' vb (K', P', E, N', S', M, C', O, L') I' → P'.length ≤ 9999 → xs (K.1, K.2.1, K.2.2 + 1) P N S C L K' P' N' S' C' L' → mu K' P' L' < mu K P L → tv N'.2.2 t → RM X Rf mb_162 (kr + 10) 0 [some (.ref 36), none, none, none] [] ((K.1, K.2.1, K.2.2 + 1), P, E, N, S, M, C, O, L) na 7 (p_7 neg (nI (rt t))) [] (K', P', E, N', S', M, C', O, L') na → mj_rn X (mj_hd []) (mj_call X mj_P (mj_bi X) (d + 9)) mb_38 17 [some (.ref 28), some (.int (nI neg)), some (.int (nI t)), some (.int (nI i))] [] (sh59, I', Lg, Rf, nc, ns) Q := by
    intro m
    induction m using Nat.strongRecOn with
    | ind m ih =>
      intro i t neg fb' K' P' N' S' C' L' I' b1 b2 b3 hv' h' hp' hx hmu ht hM
      have hk : N'.2.2 ≤ 1036 := (gv_d hv').2.2.1.2.1
      have hk1 : 36 ≤ N'.2.2 := (gv_d hv').2.2.1.1
      have htl := tv_lt hk ht
      have hgw := gw_xs hw1 hx
      have hK2 := hx.2.1.2
      have hn' : K'.2.2 + n = 40 := by
        rw [hK2]
        exact hn1
      refine mj_blk rfl ?_
      simp +decide only [mjs_0, mjs_1, mjs_2, mjs_3, mjs_ble, true_and, Bool.false_eq_true, if_false, if_true, Nat.reduceAdd, Nat.reduceSub, Nat.reduceLeDiff, false_implies, true_implies, not_false_eq_true, not_true_eq_false, and_true]
      refine ⟨fun q => absurd q (nI_ge (a := i) (b := 1000000000) (by omega) (by decide)), fun _ => mj_blk rfl ?_⟩
      simp +decide only [mjs_0, mjs_1, mjs_2, mjs_3, mjs_ble, true_and, Bool.false_eq_true, if_false, if_true, Nat.reduceAdd, Nat.reduceSub, Nat.reduceLeDiff, false_implies, true_implies, not_false_eq_true, not_true_eq_false, and_true]
      refine cq_39 (by omega) (fun hs => ?_) (fun hs => ?_)
      · -- a space or a sign
        have K43 : ∀ y : Int32, nI neg ^^^ y = nI (sgn neg t) → mj_rn X (mj_hd []) (mj_call X mj_P (mj_bi X) (d + 9)) mb_38 43 [some (.ref 28), none, none, some (.int (nI i))] [.int y, .int (nI neg)] (sh59, I', Lg, Rf, nc, ns) Q := by
          intro y hy
          have hsg : sgn neg t ≤ 1 := by
            unfold sgn
            split <;> omega
          refine mj_blk rfl ?_
          simp +decide only [mjs_0, mjs_1, mjs_2, mjs_3, mjs_ble, true_and, Bool.false_eq_true, if_false, if_true, Nat.reduceAdd, Nat.reduceSub, Nat.reduceLeDiff, false_implies, true_implies, not_false_eq_true, not_true_eq_false, and_true, hy, mc_sh]
          refine xd_n hX (by omega) hn' hr' hv' hgw (by omega) h' (fun fb2 K2 P2 N2 S2 C2 L2 I2 t2 a1 a2 a3 a4 a5 a6 a7 a8 => ?_) (fun g2 I2 a1 a2 => ?_)
          · simp +decide only [mjs_0, mjs_1, mjs_2, mjs_3, mjs_ble, true_and, Bool.false_eq_true, if_false, if_true, Nat.reduceAdd, Nat.reduceSub, Nat.reduceLeDiff, false_implies, true_implies, not_false_eq_true, not_true_eq_false, and_true, nI_1]
            refine mj_nv (ih (mu K2 P2 L2) (by omega) (i + 1) t2 (sgn neg t) fb2 K2 P2 N2 S2 C2 L2 I2 (Nat.le_refl _) (by omega) hsg a1 a2 a3 (xs_tr hx a4) (by omega) a6 (rm_tr hM ?_))
            intro H Lg d nc ns J Q hJ hA hq
            obtain ⟨D, hD, hDk⟩ : ∃ D, d + (kr + 10) = D + 10 ∧ kr ≤ D := ⟨d + kr, by omega, by omega⟩
            rw [hD]
            try rw [hD] at hq
            refine r_162t hM' hk hk1 ht b3 (fun _ => ?_) (fun hh => absurd hs hh)
            refine mj_blk rfl ?_
            simp +decide only [mjs_0, mjs_1, mjs_2, mjs_3, mjs_ble, true_and, Bool.false_eq_true, if_false, if_true, Nat.reduceAdd, Nat.reduceSub, Nat.reduceLeDiff, false_implies, true_implies, not_false_eq_true, not_true_eq_false, and_true, mm_sh, hm, mjs_up_at, mjs_up_c, mjs_up_f]
            refine rx_at a8 (by omega) hJ trivial (fun H1 J1 c1 c2 _ => ?_)
            simp +decide only [mjs_0, mjs_1, mjs_2, mjs_3, mjs_ble, true_and, Bool.false_eq_true, if_false, if_true, Nat.reduceAdd, Nat.reduceSub, Nat.reduceLeDiff, false_implies, true_implies, not_false_eq_true, not_true_eq_false, and_true, mm_sh, hm, mjs_up_at, mjs_up_c, mjs_up_f]
            exact mj_nv (hq H1 J1 c1 c2 trivial)
          · simp +decide only [mjs_0, mjs_1, mjs_2, mjs_3, mjs_ble, true_and, Bool.false_eq_true, if_false, if_true, Nat.reduceAdd, Nat.reduceSub, Nat.reduceLeDiff, false_implies, true_implies, not_false_eq_true, not_true_eq_false, and_true]
            refine qF g2 I2 a1 (rm_f hM ?_)
            intro H Lg d nc ns J Q hJ hA hq
            obtain ⟨D, hD, hDk⟩ : ∃ D, d + (kr + 10) = D + 10 ∧ kr ≤ D := ⟨d + kr, by omega, by omega⟩
            rw [hD]
            try rw [hD] at hq
            refine r_162t hM' hk hk1 ht b3 (fun _ => ?_) (fun hh => absurd hs hh)
            refine mj_blk rfl ?_
            simp +decide only [mjs_0, mjs_1, mjs_2, mjs_3, mjs_ble, true_and, Bool.false_eq_true, if_false, if_true, Nat.reduceAdd, Nat.reduceSub, Nat.reduceLeDiff, false_implies, true_implies, not_false_eq_true, not_true_eq_false, and_true, mm_sh, hm, mjs_up_at, mjs_up_c, mjs_up_f]
            refine ry_at a2 (by omega) hJ trivial (fun J1 c1 => ?_)
            simp +decide only [mjs_0, mjs_1, mjs_2, mjs_3, mjs_ble, true_and, Bool.false_eq_true, if_false, if_true, Nat.reduceAdd, Nat.reduceSub, Nat.reduceLeDiff, false_implies, true_implies, not_false_eq_true, not_true_eq_false, and_true, mm_sh, hm, mjs_up_at, mjs_up_c, mjs_up_f]
            refine mj_blk rfl ?_
            simp +decide only [mjs_0, mjs_1, mjs_2, mjs_3, mjs_ble, true_and, Bool.false_eq_true, if_false, if_true, Nat.reduceAdd, Nat.reduceSub, Nat.reduceLeDiff, false_implies, true_implies, not_false_eq_true, not_true_eq_false, and_true, mm_sh, hm, mjs_up_at, mjs_up_c, mjs_up_f]
            refine r_121e ?_
            simp +decide only [mjs_0, mjs_1, mjs_2, mjs_3, mjs_ble, true_and, Bool.false_eq_true, if_false, if_true, Nat.reduceAdd, Nat.reduceSub, Nat.reduceLeDiff, false_implies, true_implies, not_false_eq_true, not_true_eq_false, and_true, mm_sh, hm, mjs_up_at, mjs_up_c, mjs_up_f]
            refine mj_blk rfl ?_
            simp +decide only [mjs_0, mjs_1, mjs_2, mjs_3, mjs_ble, true_and, Bool.false_eq_true, if_false, if_true, Nat.reduceAdd, Nat.reduceSub, Nat.reduceLeDiff, false_implies, true_implies, not_false_eq_true, not_true_eq_false, and_true, mm_sh, hm, mjs_up_at, mjs_up_c, mjs_up_f]
            refine r_120 (a := 12) (b := 43) ?_
            rw [if_neg (by decide)]
            simp +decide only [mjs_0, mjs_1, mjs_2, mjs_3, mjs_ble, true_and, Bool.false_eq_true, if_false, if_true, Nat.reduceAdd, Nat.reduceSub, Nat.reduceLeDiff, false_implies, true_implies, not_false_eq_true, not_true_eq_false, and_true, mm_sh, hm, mjs_up_at, mjs_up_c, mjs_up_f]
            refine mj_blk rfl ?_
            simp +decide only [mjs_0, mjs_1, mjs_2, mjs_3, mjs_ble, true_and, Bool.false_eq_true, if_false, if_true, Nat.reduceAdd, Nat.reduceSub, Nat.reduceLeDiff, false_implies, true_implies, not_false_eq_true, not_true_eq_false, and_true, mm_sh, hm, mjs_up_at, mjs_up_c, mjs_up_f]
            refine r_120 (a := 12) (b := 45) ?_
            rw [if_neg (by decide)]
            simp +decide only [mjs_0, mjs_1, mjs_2, mjs_3, mjs_ble, true_and, Bool.false_eq_true, if_false, if_true, Nat.reduceAdd, Nat.reduceSub, Nat.reduceLeDiff, false_implies, true_implies, not_false_eq_true, not_true_eq_false, and_true, mm_sh, hm, mjs_up_at, mjs_up_c, mjs_up_f]
            refine mj_blk rfl ?_
            simp +decide only [mjs_0, mjs_1, mjs_2, mjs_3, mjs_ble, true_and, Bool.false_eq_true, if_false, if_true, Nat.reduceAdd, Nat.reduceSub, Nat.reduceLeDiff, false_implies, true_implies, not_false_eq_true, not_true_eq_false, and_true, mm_sh, hm, mjs_up_at, mjs_up_c, mjs_up_f]
            refine ⟨fun q => absurd q (rd_nle c1), fun _ => mj_blk rfl ?_⟩
            simp +decide only [mjs_0, mjs_1, mjs_2, mjs_3, mjs_ble, true_and, Bool.false_eq_true, if_false, if_true, Nat.reduceAdd, Nat.reduceSub, Nat.reduceLeDiff, false_implies, true_implies, not_false_eq_true, not_true_eq_false, and_true, mm_sh, hm, mjs_up_at, mjs_up_c, mjs_up_f]
            exact hq J1 c1
        simp +decide only [mjs_0, mjs_1, mjs_2, mjs_3, mjs_ble, true_and, Bool.false_eq_true, if_false, if_true, Nat.reduceAdd, Nat.reduceSub, Nat.reduceLeDiff, false_implies, true_implies, not_false_eq_true, not_true_eq_false, and_true]
        refine mj_blk rfl ?_
        simp +decide only [mjs_0, mjs_1, mjs_2, mjs_3, mjs_ble, true_and, Bool.false_eq_true, if_false, if_true, Nat.reduceAdd, Nat.reduceSub, Nat.reduceLeDiff, false_implies, true_implies, not_false_eq_true, not_true_eq_false, and_true]
        have n01 : neg = 0 ∨ neg = 1 := by omega
        by_cases e : t = 3117
        · refine ⟨fun q => absurd (by rw [e]; rfl) q, fun _ => mj_blk rfl ?_⟩
          simp +decide only [mjs_0, mjs_1, mjs_2, mjs_3, mjs_ble, true_and, Bool.false_eq_true, if_false, if_true, Nat.reduceAdd, Nat.reduceSub, Nat.reduceLeDiff, false_implies, true_implies, not_false_eq_true, not_true_eq_false, and_true]
          refine mj_nv (K43 1 ?_)
          unfold sgn
          rw [if_pos e]
          rcases n01 with rfl | rfl <;> decide
        · have ne : ¬ nI t = 3117 := fun q => e ((nI_eq (b := 3117) (by omega) (by decide)).mp q)
          refine ⟨fun _ => mj_blk rfl ?_, fun q => absurd ne q⟩
          simp +decide only [mjs_0, mjs_1, mjs_2, mjs_3, mjs_ble, true_and, Bool.false_eq_true, if_false, if_true, Nat.reduceAdd, Nat.reduceSub, Nat.reduceLeDiff, false_implies, true_implies, not_false_eq_true, not_true_eq_false, and_true]
          refine mj_nv (K43 0 ?_)
          unfold sgn
          rw [if_neg e]
          rcases n01 with rfl | rfl <;> decide
      · -- the number itself
        have r64 : RM X Rf mb_162 (kr + 10) 0 [some (.ref 36), none, none, none] [] ((K.1, K.2.1, K.2.2 + 1), P, E, N, S, M, C, O, L) na 73 (p_7 neg (nI (rt t))) [] (K', P', E, N', S', M, C', O, L') na := by
          refine rm_tr hM ?_
          intro H Lg d nc ns J Q hJ hA hq
          obtain ⟨D, hD, hDk⟩ : ∃ D, d + (kr + 10) = D + 10 ∧ kr ≤ D := ⟨d + kr, by omega, by omega⟩
          rw [hD]
          try rw [hD] at hq
          refine r_162t hM' hk hk1 ht b3 (fun hh => absurd hh hs) (fun _ => ?_)
          unfold p_7 at hq ⊢
          refine mj_blk rfl ?_
          simp +decide only [mjs_0, mjs_1, mjs_2, mjs_3, mjs_ble, true_and, Bool.false_eq_true, if_false, if_true, Nat.reduceAdd, Nat.reduceSub, Nat.reduceLeDiff, false_implies, true_implies, not_false_eq_true, not_true_eq_false, and_true, mm_sh, hm, mjs_up_at, mjs_up_c, mjs_up_f, (rr_d hJ).1.2.2.2]
          exact mj_nv (hq H J hx_rf hJ trivial)
        have hcons : mu K' (t :: P') L' ≤ mu K P L := by
          have := mu_len (K := K') (L := L') (P' := t :: P') (P := P') (by simp)
          omega
        have ho : ov N'.2.2 (some t) := fun u hu => by cases hu; exact ht
        simp +decide only [mjs_0, mjs_1, mjs_2, mjs_3, mjs_ble, true_and, Bool.false_eq_true, if_false, if_true, Nat.reduceAdd, Nat.reduceSub, Nat.reduceLeDiff, false_implies, true_implies, not_false_eq_true, not_true_eq_false, and_true]
        refine mj_blk rfl ?_
        simp +decide only [mjs_0, mjs_1, mjs_2, mjs_3, mjs_ble, true_and, Bool.false_eq_true, if_false, if_true, Nat.reduceAdd, Nat.reduceSub, Nat.reduceLeDiff, false_implies, true_implies, not_false_eq_true, not_true_eq_false, and_true]
        refine cq_191 (o := some t) (fun u hu => by cases hu; omega) ?_
        by_cases hd : isdg (some t)
        · obtain ⟨u, hu, d1, d2⟩ := hd
          cases hu
          have hdd : isdg (some t) := ⟨t, rfl, d1, d2⟩
          rw [show tdg (some t) = nI (t - 3120) from if_pos ⟨d1, d2⟩]
          simp +decide only [mjs_0, mjs_1, mjs_2, mjs_3, mjs_ble, true_and, Bool.false_eq_true, if_false, if_true, Nat.reduceAdd, Nat.reduceSub, Nat.reduceLeDiff, false_implies, true_implies, not_false_eq_true, not_true_eq_false, and_true]
          refine ⟨fun q => absurd q (nI_pos (by omega)), fun _ => mj_blk rfl ?_⟩
          simp +decide only [mjs_0, mjs_1, mjs_2, mjs_3, mjs_ble, true_and, Bool.false_eq_true, if_false, if_true, Nat.reduceAdd, Nat.reduceSub, Nat.reduceLeDiff, false_implies, true_implies, not_false_eq_true, not_true_eq_false, and_true, mc_sh]
          refine p_40 hR hM' hX (by omega) hn' hr' hv' hgw hp' ht ⟨d1, d2⟩ h' (fun fb2 K2 P2 N2 S2 C2 L2 I2 v a1 a2 a3 a4 a5 a6 => ?_) (fun g2 I2 a1 a2 => ?_)
          · simp +decide only [mjs_0, mjs_1, mjs_2, mjs_3, mjs_ble, true_and, Bool.false_eq_true, if_false, if_true, Nat.reduceAdd, Nat.reduceSub, Nat.reduceLeDiff, false_implies, true_implies, not_false_eq_true, not_true_eq_false, and_true]
            refine mj_nv (fin fb2 K2 P2 N2 S2 C2 L2 I2 (nI v) neg a1 a2 a3 ⟨nx_tr hx.1 a4.1, ⟨Nat.le_trans hx.2.1.1 a4.2.1.1, a4.2.1.2.trans hx.2.1.2⟩, Nat.le_trans a4.2.2.1 hcons, Nat.le_trans a4.2.2.2.1 hx.2.2.2.1, sx_tr hx.2.2.2.2.1 a4.2.2.2.2.1, cx_tr hx.2.2.2.2.2 a4.2.2.2.2.2⟩ (fun q => absurd (nI_pos a5) (by rw [q]; decide)) b3 (rm_tr r64 ?_))
            intro H Lg d nc ns J Q hJ hA hq
            obtain ⟨D, hD, hDk⟩ : ∃ D, d + (kr + 10) = D + 10 ∧ kr ≤ D := ⟨d + kr, by omega, by omega⟩
            rw [hD]
            try rw [hD] at hq
            unfold p_7
            refine mj_blk rfl ?_
            simp +decide only [mjs_0, mjs_1, mjs_2, mjs_3, mjs_ble, true_and, Bool.false_eq_true, if_false, if_true, Nat.reduceAdd, Nat.reduceSub, Nat.reduceLeDiff, false_implies, true_implies, not_false_eq_true, not_true_eq_false, and_true, mm_sh, hm, mjs_up_at, mjs_up_c, mjs_up_f]
            refine rq_157 (o := some t) hk hk1 ho (fun _ => ?_) (fun hh => absurd hdd hh)
            simp +decide only [mjs_0, mjs_1, mjs_2, mjs_3, mjs_ble, true_and, Bool.false_eq_true, if_false, if_true, Nat.reduceAdd, Nat.reduceSub, Nat.reduceLeDiff, false_implies, true_implies, not_false_eq_true, not_true_eq_false, and_true, mm_sh, hm, mjs_up_at, mjs_up_c, mjs_up_f]
            refine mj_blk rfl ?_
            simp +decide only [mjs_0, mjs_1, mjs_2, mjs_3, mjs_ble, true_and, Bool.false_eq_true, if_false, if_true, Nat.reduceAdd, Nat.reduceSub, Nat.reduceLeDiff, false_implies, true_implies, not_false_eq_true, not_true_eq_false, and_true, mm_sh, hm, mjs_up_at, mjs_up_c, mjs_up_f]
            refine rx_at a6 (by omega) hJ trivial (fun H1 J1 c1 c2 _ => ?_)
            simp +decide only [mjs_0, mjs_1, mjs_2, mjs_3, mjs_ble, true_and, Bool.false_eq_true, if_false, if_true, Nat.reduceAdd, Nat.reduceSub, Nat.reduceLeDiff, false_implies, true_implies, not_false_eq_true, not_true_eq_false, and_true, mm_sh, hm, mjs_up_at, mjs_up_c, mjs_up_f]
            exact mj_nv (hq H1 J1 c1 c2 trivial)
          · simp +decide only [mjs_0, mjs_1, mjs_2, mjs_3, mjs_ble, true_and, Bool.false_eq_true, if_false, if_true, Nat.reduceAdd, Nat.reduceSub, Nat.reduceLeDiff, false_implies, true_implies, not_false_eq_true, not_true_eq_false, and_true]
            refine qF g2 I2 a1 (rm_f r64 ?_)
            intro H Lg d nc ns J Q hJ hA hq
            obtain ⟨D, hD, hDk⟩ : ∃ D, d + (kr + 10) = D + 10 ∧ kr ≤ D := ⟨d + kr, by omega, by omega⟩
            rw [hD]
            try rw [hD] at hq
            unfold p_7
            refine mj_blk rfl ?_
            simp +decide only [mjs_0, mjs_1, mjs_2, mjs_3, mjs_ble, true_and, Bool.false_eq_true, if_false, if_true, Nat.reduceAdd, Nat.reduceSub, Nat.reduceLeDiff, false_implies, true_implies, not_false_eq_true, not_true_eq_false, and_true, mm_sh, hm, mjs_up_at, mjs_up_c, mjs_up_f]
            refine rq_157 (o := some t) hk hk1 ho (fun _ => ?_) (fun hh => absurd hdd hh)
            simp +decide only [mjs_0, mjs_1, mjs_2, mjs_3, mjs_ble, true_and, Bool.false_eq_true, if_false, if_true, Nat.reduceAdd, Nat.reduceSub, Nat.reduceLeDiff, false_implies, true_implies, not_false_eq_true, not_true_eq_false, and_true, mm_sh, hm, mjs_up_at, mjs_up_c, mjs_up_f]
            refine mj_blk rfl ?_
            simp +decide only [mjs_0, mjs_1, mjs_2, mjs_3, mjs_ble, true_and, Bool.false_eq_true, if_false, if_true, Nat.reduceAdd, Nat.reduceSub, Nat.reduceLeDiff, false_implies, true_implies, not_false_eq_true, not_true_eq_false, and_true, mm_sh, hm, mjs_up_at, mjs_up_c, mjs_up_f]
            refine ry_at a2 (by omega) hJ trivial (fun J1 c1 => ?_)
            simp +decide only [mjs_0, mjs_1, mjs_2, mjs_3, mjs_ble, true_and, Bool.false_eq_true, if_false, if_true, Nat.reduceAdd, Nat.reduceSub, Nat.reduceLeDiff, false_implies, true_implies, not_false_eq_true, not_true_eq_false, and_true, mm_sh, hm, mjs_up_at, mjs_up_c, mjs_up_f]
            exact mj_nv (f_133 hM' c1 hq)
        · have r91 : RM X Rf mb_162 (kr + 10) 0 [some (.ref 36), none, none, none] [] ((K.1, K.2.1, K.2.2 + 1), P, E, N, S, M, C, O, L) na 91 [some (.ref 36), some (.int (nI neg)), some (.int (nI (rt t))), some (.int 0)] [] (K', P', E, N', S', M, C', O, L') na := by
            refine rm_tr r64 ?_
            intro H Lg d nc ns J Q hJ hA hq
            obtain ⟨D, hD, hDk⟩ : ∃ D, d + (kr + 10) = D + 10 ∧ kr ≤ D := ⟨d + kr, by omega, by omega⟩
            rw [hD]
            try rw [hD] at hq
            unfold p_7
            refine mj_blk rfl ?_
            simp +decide only [mjs_0, mjs_1, mjs_2, mjs_3, mjs_ble, true_and, Bool.false_eq_true, if_false, if_true, Nat.reduceAdd, Nat.reduceSub, Nat.reduceLeDiff, false_implies, true_implies, not_false_eq_true, not_true_eq_false, and_true, mm_sh, hm, mjs_up_at, mjs_up_c, mjs_up_f]
            refine rq_157 (o := some t) hk hk1 ho (fun hh => absurd hh hd) (fun _ => ?_)
            simp +decide only [mjs_0, mjs_1, mjs_2, mjs_3, mjs_ble, true_and, Bool.false_eq_true, if_false, if_true, Nat.reduceAdd, Nat.reduceSub, Nat.reduceLeDiff, false_implies, true_implies, not_false_eq_true, not_true_eq_false, and_true, mm_sh, hm, mjs_up_at, mjs_up_c, mjs_up_f]
            exact mj_nv (hq H J hx_rf hJ trivial)
          have c96 := rt_c hk hk1 ht (c := 3168) (by decide)
          rw [tdg_n hd]
          simp +decide only [mjs_0, mjs_1, mjs_2, mjs_3, mjs_ble, true_and, Bool.false_eq_true, if_false, if_true, Nat.reduceAdd, Nat.reduceSub, Nat.reduceLeDiff, false_implies, true_implies, not_false_eq_true, not_true_eq_false, and_true]
          refine mj_blk rfl ?_
          simp +decide only [mjs_0, mjs_1, mjs_2, mjs_3, mjs_ble, true_and, Bool.false_eq_true, if_false, if_true, Nat.reduceAdd, Nat.reduceSub, Nat.reduceLeDiff, false_implies, true_implies, not_false_eq_true, not_true_eq_false, and_true]
          by_cases e96 : t = 3168
          · -- the character behind `
            have r102 : RM X Rf mb_162 (kr + 10) 0 [some (.ref 36), none, none, none] [] ((K.1, K.2.1, K.2.2 + 1), P, E, N, S, M, C, O, L) na 102 [some (.ref 36), some (.int (nI neg)), none, none] [] (K', P', E, N', S', M, C', O, L') na := by
              refine rm_tr r91 ?_
              intro H Lg d nc ns J Q hJ hA hq
              obtain ⟨D, hD, hDk⟩ : ∃ D, d + (kr + 10) = D + 10 ∧ kr ≤ D := ⟨d + kr, by omega, by omega⟩
              rw [hD]
              try rw [hD] at hq
              refine mj_blk rfl ?_
              simp +decide only [mjs_0, mjs_1, mjs_2, mjs_3, mjs_ble, true_and, Bool.false_eq_true, if_false, if_true, Nat.reduceAdd, Nat.reduceSub, Nat.reduceLeDiff, false_implies, true_implies, not_false_eq_true, not_true_eq_false, and_true, mm_sh, hm, mjs_up_at, mjs_up_c, mjs_up_f]
              refine r_120 (a := 12) (b := 96) ?_
              rw [if_pos (c96.mpr e96)]
              simp +decide only [mjs_0, mjs_1, mjs_2, mjs_3, mjs_ble, true_and, Bool.false_eq_true, if_false, if_true, Nat.reduceAdd, Nat.reduceSub, Nat.reduceLeDiff, false_implies, true_implies, not_false_eq_true, not_true_eq_false, and_true, mm_sh, hm, mjs_up_at, mjs_up_c, mjs_up_f]
              exact mj_nv (hq H J hx_rf hJ trivial)
            have rF : ∀ g2 I2, RCf fb vb g2 I2 → RYi X Rf (kr + 3 + 7) 160 [.ref 36] (K', P', E, N', S', M, C', O, L') na g2 → Q (.inr 500) (sh59, I2, Lg, Rf, nc + 1, ns + 6) := by
              intro g2 I2 a1 a2
              refine qF g2 I2 a1 (rm_f r102 ?_)
              intro H Lg d nc ns J Q hJ hA hq
              obtain ⟨D, hD, hDk⟩ : ∃ D, d + (kr + 10) = D + 10 ∧ kr ≤ D := ⟨d + kr, by omega, by omega⟩
              rw [hD]
              try rw [hD] at hq
              refine mj_blk rfl ?_
              simp +decide only [mjs_0, mjs_1, mjs_2, mjs_3, mjs_ble, true_and, Bool.false_eq_true, if_false, if_true, Nat.reduceAdd, Nat.reduceSub, Nat.reduceLeDiff, false_implies, true_implies, not_false_eq_true, not_true_eq_false, and_true, mm_sh, hm, mjs_up_at, mjs_up_c, mjs_up_f]
              refine ryi_at a2 (by omega) hJ trivial (fun J1 x c1 => ?_)
              simp +decide only [mjs_0, mjs_1, mjs_2, mjs_3, mjs_ble, true_and, Bool.false_eq_true, if_false, if_true, Nat.reduceAdd, Nat.reduceSub, Nat.reduceLeDiff, false_implies, true_implies, not_false_eq_true, not_true_eq_false, and_true, mm_sh, hm, mjs_up_at, mjs_up_c, mjs_up_f]
              exact mj_nv (f_133 hM' c1 hq)
            refine ⟨fun q => absurd (by rw [e96]; rfl) q, fun _ => mj_blk rfl ?_⟩
            simp +decide only [mjs_0, mjs_1, mjs_2, mjs_3, mjs_ble, true_and, Bool.false_eq_true, if_false, if_true, Nat.reduceAdd, Nat.reduceSub, Nat.reduceLeDiff, false_implies, true_implies, not_false_eq_true, not_true_eq_false, and_true, mc_sh, hr, mjs_up_at, mjs_up_c, mjs_up_f]
            refine p_85n hR hM' hv' h' (by omega) hr' (fun t1 P1 N1 L1 I1 a1 a2 a3 a4 a5 a6 a7 a8 => ?_) (fun g2 I2 a1 a2 => ?_)
            · simp +decide only [mjs_0, mjs_1, mjs_2, mjs_3, mjs_ble, true_and, Bool.false_eq_true, if_false, if_true, Nat.reduceAdd, Nat.reduceSub, Nat.reduceLeDiff, false_implies, true_implies, not_false_eq_true, not_true_eq_false, and_true, mc_sh]
              refine cq_42 hR a1 a2 hr' a7 (fun c hc => ?_) (fun hc I2 c1 => ?_)
              · have hc256 := chn_lt a1 a7 hc
                simp +decide only [mjs_0, mjs_1, mjs_2, mjs_3, mjs_ble, true_and, Bool.false_eq_true, if_false, if_true, Nat.reduceAdd, Nat.reduceSub, Nat.reduceLeDiff, false_implies, true_implies, not_false_eq_true, not_true_eq_false, and_true, mc_sh]
                refine xd_e hX (by omega) hn' hr' a1 hgw (by omega) a2 (fun fb2 K2 P2 N2 S2 C2 L2 I2 o a1' a2' a3' a4' a5' a6' a7' a8' a9' => ?_) (fun g2 I2 a1' a2' => ?_)
                · have hk2 : N2.2.2 ≤ 1036 := (gv_d a1').2.2.1.2.1
                  have hdl := dsp_len (o := o) (P := P2)
                  have hmu2 : mu K2 (dsp o P2) L2 ≤ mu K P L := by
                    have z1 := a4'.2.2.1
                    have z2 : mu K' P1 L1 ≤ mu K' P' L' := (xs_get (K := K') (S := S') (C := C') a3 (by omega) a6).2.2.1
                    have z3 := mu_len (K := K2) (L := L2) hdl
                    omega
                  simp +decide only [mjs_0, mjs_1, mjs_2, mjs_3, mjs_ble, true_and, Bool.false_eq_true, if_false, if_true, Nat.reduceAdd, Nat.reduceSub, Nat.reduceLeDiff, false_implies, true_implies, not_false_eq_true, not_true_eq_false, and_true, mc_sh]
                  refine cq_41 (o := o) hR a2' (fun u hu => by have := tv_lt hk2 (a6' u hu); omega) (by omega) (fun I3 c3 => ?_)
                  simp +decide only [mjs_0, mjs_1, mjs_2, mjs_3, mjs_ble, true_and, Bool.false_eq_true, if_false, if_true, Nat.reduceAdd, Nat.reduceSub, Nat.reduceLeDiff, false_implies, true_implies, not_false_eq_true, not_true_eq_false, and_true]
                  have hxg : xs K' P' N' S' C' L' K' P1 N1 S' C' L1 := xs_get a3 (by omega) a6
                  have hxx := xs_tr hx (xs_tr hxg a4')
                  refine mj_nv (fin fb2 K2 (dsp o P2) N2 S2 C2 L2 I3 (nI c) neg (gv_dsp a1' a6') c3 (by omega) ⟨hxx.1, hxx.2.1, hmu2, hxx.2.2.2⟩ (fun q => absurd (nI_pos (n := c) (by omega)) (by rw [q]; decide)) b3 (rm_tr r102 ?_))
                  have x160 := rx_160 hM' a1 a7 a8 hc (rx_158 hM' a1' a6' (by omega) a9')
                  intro H Lg d nc ns J Q hJ hA hq
                  obtain ⟨D, hD, hDk⟩ : ∃ D, d + (kr + 10) = D + 10 ∧ kr ≤ D := ⟨d + kr, by omega, by omega⟩
                  rw [hD]
                  try rw [hD] at hq
                  refine mj_blk rfl ?_
                  simp +decide only [mjs_0, mjs_1, mjs_2, mjs_3, mjs_ble, true_and, Bool.false_eq_true, if_false, if_true, Nat.reduceAdd, Nat.reduceSub, Nat.reduceLeDiff, false_implies, true_implies, not_false_eq_true, not_true_eq_false, and_true, mm_sh, hm, mjs_up_at, mjs_up_c, mjs_up_f]
                  refine rx_at x160 (by omega) hJ trivial (fun H1 J1 c1 c2 _ => ?_)
                  simp +decide only [mjs_0, mjs_1, mjs_2, mjs_3, mjs_ble, true_and, Bool.false_eq_true, if_false, if_true, Nat.reduceAdd, Nat.reduceSub, Nat.reduceLeDiff, false_implies, true_implies, not_false_eq_true, not_true_eq_false, and_true, mm_sh, hm, mjs_up_at, mjs_up_c, mjs_up_f]
                  exact mj_nv (hq H1 J1 c1 c2 trivial)
                · simp +decide only [mjs_0, mjs_1, mjs_2, mjs_3, mjs_ble, true_and, Bool.false_eq_true, if_false, if_true, Nat.reduceAdd, Nat.reduceSub, Nat.reduceLeDiff, false_implies, true_implies, not_false_eq_true, not_true_eq_false, and_true]
                  exact rF g2 I2 a1' (ryi_160c hM' a1 a7 a8 hc (ry_158 hM' a2'))
              · simp +decide only [mjs_0, mjs_1, mjs_2, mjs_3, mjs_ble, true_and, Bool.false_eq_true, if_false, if_true, Nat.reduceAdd, Nat.reduceSub, Nat.reduceLeDiff, false_implies, true_implies, not_false_eq_true, not_true_eq_false, and_true]
                exact rF _ I2 c1 (ryi_160b hM' a1 a7 a8 hc)
            · simp +decide only [mjs_0, mjs_1, mjs_2, mjs_3, mjs_ble, true_and, Bool.false_eq_true, if_false, if_true, Nat.reduceAdd, Nat.reduceSub, Nat.reduceLeDiff, false_implies, true_implies, not_false_eq_true, not_true_eq_false, and_true]
              exact rF g2 I2 a1 (ryi_160a hM' a2)
          · have ne96 : ¬ nI t = 3168 := fun q => e96 ((nI_eq (b := 3168) (by omega) (by decide)).mp q)
            have r110 : RM X Rf mb_162 (kr + 10) 0 [some (.ref 36), none, none, none] [] ((K.1, K.2.1, K.2.2 + 1), P, E, N, S, M, C, O, L) na 110 [some (.ref 36), some (.int (nI neg)), some (.int (nI (rt t))), some (.int 0)] [] (K', P', E, N', S', M, C', O, L') na := by
              refine rm_tr r91 ?_
              intro H Lg d nc ns J Q hJ hA hq
              obtain ⟨D, hD, hDk⟩ : ∃ D, d + (kr + 10) = D + 10 ∧ kr ≤ D := ⟨d + kr, by omega, by omega⟩
              rw [hD]
              try rw [hD] at hq
              refine mj_blk rfl ?_
              simp +decide only [mjs_0, mjs_1, mjs_2, mjs_3, mjs_ble, true_and, Bool.false_eq_true, if_false, if_true, Nat.reduceAdd, Nat.reduceSub, Nat.reduceLeDiff, false_implies, true_implies, not_false_eq_true, not_true_eq_false, and_true, mm_sh, hm, mjs_up_at, mjs_up_c, mjs_up_f]
              refine r_120 (a := 12) (b := 96) ?_
              rw [if_neg (fun q => e96 (c96.mp q))]
              simp +decide only [mjs_0, mjs_1, mjs_2, mjs_3, mjs_ble, true_and, Bool.false_eq_true, if_false, if_true, Nat.reduceAdd, Nat.reduceSub, Nat.reduceLeDiff, false_implies, true_implies, not_false_eq_true, not_true_eq_false, and_true, mm_sh, hm, mjs_up_at, mjs_up_c, mjs_up_f]
              exact mj_nv (hq H J hx_rf hJ trivial)
            refine ⟨fun _ => mj_blk rfl ?_, fun q => absurd ne96 q⟩
            simp +decide only [mjs_0, mjs_1, mjs_2, mjs_3, mjs_ble, true_and, Bool.false_eq_true, if_false, if_true, Nat.reduceAdd, Nat.reduceSub, Nat.reduceLeDiff, false_implies, true_implies, not_false_eq_true, not_true_eq_false, and_true, mc_sh]
            refine p_43 hR hM' hN (by omega) hn' hr' hv' hgw (by omega) ht h' (fun fb2 K2 P2 N2 S2 C2 L2 I2 x a1 a2 a3 a4 a5 a6 a7 => ?_) (fun hh I2 a1 => ?_) (fun hh g2 I2 a1 a2 => ?_)
            · simp +decide only [mjs_0, mjs_1, mjs_2, mjs_3, mjs_ble, true_and, Bool.false_eq_true, if_false, if_true, Nat.reduceAdd, Nat.reduceSub, Nat.reduceLeDiff, false_implies, true_implies, not_false_eq_true, not_true_eq_false, and_true]
              refine mj_nv (fin fb2 K2 P2 N2 S2 C2 L2 I2 x neg a1 a2 a3 (xs_tr hx a4) a5 b3 (rm_tr r110 ?_))
              intro H Lg d nc ns J Q hJ hA hq
              obtain ⟨D, hD, hDk⟩ : ∃ D, d + (kr + 10) = D + 10 ∧ kr ≤ D := ⟨d + kr, by omega, by omega⟩
              rw [hD]
              try rw [hD] at hq
              refine mj_blk rfl ?_
              simp +decide only [mjs_0, mjs_1, mjs_2, mjs_3, mjs_ble, true_and, Bool.false_eq_true, if_false, if_true, Nat.reduceAdd, Nat.reduceSub, Nat.reduceLeDiff, false_implies, true_implies, not_false_eq_true, not_true_eq_false, and_true, mm_sh, hm, mjs_up_at, mjs_up_c, mjs_up_f]
              refine rq_154 hM' hJ hv' ht (fun _ => ?_) (fun hh => absurd a6 hh)
              simp +decide only [mjs_0, mjs_1, mjs_2, mjs_3, mjs_ble, true_and, Bool.false_eq_true, if_false, if_true, Nat.reduceAdd, Nat.reduceSub, Nat.reduceLeDiff, false_implies, true_implies, not_false_eq_true, not_true_eq_false, and_true, mm_sh, hm, mjs_up_at, mjs_up_c, mjs_up_f]
              refine mj_blk rfl ?_
              simp +decide only [mjs_0, mjs_1, mjs_2, mjs_3, mjs_ble, true_and, Bool.false_eq_true, if_false, if_true, Nat.reduceAdd, Nat.reduceSub, Nat.reduceLeDiff, false_implies, true_implies, not_false_eq_true, not_true_eq_false, and_true, mm_sh, hm, mjs_up_at, mjs_up_c, mjs_up_f]
              refine rx_at a7 (by omega) hJ trivial (fun H1 J1 c1 c2 _ => ?_)
              simp +decide only [mjs_0, mjs_1, mjs_2, mjs_3, mjs_ble, true_and, Bool.false_eq_true, if_false, if_true, Nat.reduceAdd, Nat.reduceSub, Nat.reduceLeDiff, false_implies, true_implies, not_false_eq_true, not_true_eq_false, and_true, mm_sh, hm, mjs_up_at, mjs_up_c, mjs_up_f]
              exact mj_nv (hq H1 J1 c1 c2 trivial)
            · simp +decide only [mjs_0, mjs_1, mjs_2, mjs_3, mjs_ble, true_and, Bool.false_eq_true, if_false, if_true, Nat.reduceAdd, Nat.reduceSub, Nat.reduceLeDiff, false_implies, true_implies, not_false_eq_true, not_true_eq_false, and_true]
              refine qF _ I2 a1 (rm_f r110 ?_)
              intro H Lg d nc ns J Q hJ hA hq
              obtain ⟨D, hD, hDk⟩ : ∃ D, d + (kr + 10) = D + 10 ∧ kr ≤ D := ⟨d + kr, by omega, by omega⟩
              rw [hD]
              try rw [hD] at hq
              refine mj_blk rfl ?_
              simp +decide only [mjs_0, mjs_1, mjs_2, mjs_3, mjs_ble, true_and, Bool.false_eq_true, if_false, if_true, Nat.reduceAdd, Nat.reduceSub, Nat.reduceLeDiff, false_implies, true_implies, not_false_eq_true, not_true_eq_false, and_true, mm_sh, hm, mjs_up_at, mjs_up_c, mjs_up_f]
              refine rq_154 hM' hJ hv' ht (fun h2 => absurd h2 hh) (fun _ => ?_)
              simp +decide only [mjs_0, mjs_1, mjs_2, mjs_3, mjs_ble, true_and, Bool.false_eq_true, if_false, if_true, Nat.reduceAdd, Nat.reduceSub, Nat.reduceLeDiff, false_implies, true_implies, not_false_eq_true, not_true_eq_false, and_true, mm_sh, hm, mjs_up_at, mjs_up_c, mjs_up_f]
              refine mj_blk rfl ?_
              simp +decide only [mjs_0, mjs_1, mjs_2, mjs_3, mjs_ble, true_and, Bool.false_eq_true, if_false, if_true, Nat.reduceAdd, Nat.reduceSub, Nat.reduceLeDiff, false_implies, true_implies, not_false_eq_true, not_true_eq_false, and_true, mm_sh, hm, mjs_up_at, mjs_up_c, mjs_up_f]
              refine c_106 s59_36 ?_
              rw [if_pos (rr_d hJ).1.2.2.2]
              simp +decide only [mjs_0, mjs_1, mjs_2, mjs_3, mjs_ble, true_and, Bool.false_eq_true, if_false, if_true, Nat.reduceAdd, Nat.reduceSub, Nat.reduceLeDiff, false_implies, true_implies, not_false_eq_true, not_true_eq_false, and_true, mm_sh, hm, mjs_up_at, mjs_up_c, mjs_up_f]
              exact mj_nv (f_133 (neg := neg) hM' (rr_f (f := 6) (by decide) (by decide) hJ) hq)
            · simp +decide only [mjs_0, mjs_1, mjs_2, mjs_3, mjs_ble, true_and, Bool.false_eq_true, if_false, if_true, Nat.reduceAdd, Nat.reduceSub, Nat.reduceLeDiff, false_implies, true_implies, not_false_eq_true, not_true_eq_false, and_true]
              refine qF g2 I2 a1 (rm_f r110 ?_)
              intro H Lg d nc ns J Q hJ hA hq
              obtain ⟨D, hD, hDk⟩ : ∃ D, d + (kr + 10) = D + 10 ∧ kr ≤ D := ⟨d + kr, by omega, by omega⟩
              rw [hD]
              try rw [hD] at hq
              refine mj_blk rfl ?_
              simp +decide only [mjs_0, mjs_1, mjs_2, mjs_3, mjs_ble, true_and, Bool.false_eq_true, if_false, if_true, Nat.reduceAdd, Nat.reduceSub, Nat.reduceLeDiff, false_implies, true_implies, not_false_eq_true, not_true_eq_false, and_true, mm_sh, hm, mjs_up_at, mjs_up_c, mjs_up_f]
              refine rq_154 hM' hJ hv' ht (fun _ => ?_) (fun h2 => absurd hh h2)
              simp +decide only [mjs_0, mjs_1, mjs_2, mjs_3, mjs_ble, true_and, Bool.false_eq_true, if_false, if_true, Nat.reduceAdd, Nat.reduceSub, Nat.reduceLeDiff, false_implies, true_implies, not_false_eq_true, not_true_eq_false, and_true, mm_sh, hm, mjs_up_at, mjs_up_c, mjs_up_f]
              refine mj_blk rfl ?_
              simp +decide only [mjs_0, mjs_1, mjs_2, mjs_3, mjs_ble, true_and, Bool.false_eq_true, if_false, if_true, Nat.reduceAdd, Nat.reduceSub, Nat.reduceLeDiff, false_implies, true_implies, not_false_eq_true, not_true_eq_false, and_true, mm_sh, hm, mjs_up_at, mjs_up_c, mjs_up_f]
              refine ryi_at a2 (by omega) hJ trivial (fun J1 x c1 => ?_)
              simp +decide only [mjs_0, mjs_1, mjs_2, mjs_3, mjs_ble, true_and, Bool.false_eq_true, if_false, if_true, Nat.reduceAdd, Nat.reduceSub, Nat.reduceLeDiff, false_implies, true_implies, not_false_eq_true, not_true_eq_false, and_true, mm_sh, hm, mjs_up_at, mjs_up_c, mjs_up_f]
              exact mj_nv (f_133 hM' c1 hq)
  refine mj_enter (z := (4, [], mb_38)) (by decide) rfl rfl ?_
  refine mj_blk rfl ?_
  simp +decide only [mjs_0, mjs_1, mjs_2, mjs_3, mjs_ble, true_and, Bool.false_eq_true, if_false, if_true, Nat.reduceAdd, Nat.reduceSub, Nat.reduceLeDiff, false_implies, true_implies, not_false_eq_true, not_true_eq_false, and_true, mc_sh, hr, mjs_up_at, mjs_up_c, mjs_up_f]
  refine c_78 (k := K.2.2) (by omega) k3 hr' (fun _ => ?_) (fun e => absurd e (by omega))
  simp +decide only [mjs_0, mjs_1, mjs_2, mjs_3, mjs_ble, true_and, Bool.false_eq_true, if_false, if_true, Nat.reduceAdd, Nat.reduceSub, Nat.reduceLeDiff, false_implies, true_implies, not_false_eq_true, not_true_eq_false, and_true, mc_sh]
  refine xd_n hX (by omega) hn1 hr' hv1 hw1 hp h1 (fun fb2 K2 P2 N2 S2 C2 L2 I2 t2 a1 a2 a3 a4 a5 a6 a7 a8 => ?_) (fun g2 I2 a1 a2 => ?_)
  · simp +decide only [mjs_0, mjs_1, mjs_2, mjs_3, mjs_ble, true_and, Bool.false_eq_true, if_false, if_true, Nat.reduceAdd, Nat.reduceSub, Nat.reduceLeDiff, false_implies, true_implies, not_false_eq_true, not_true_eq_false, and_true]
    have hmu1 : mu K2 P2 L2 < mu K P L := a5
    refine mj_nv (loop (mu K2 P2 L2) 0 t2 0 fb2 K2 P2 N2 S2 C2 L2 I2 (Nat.le_refl _) (by omega) (by decide) a1 a2 a3 a4 a5 a6 ?_)
    intro H Lg d nc ns J Q hJ hA hq
    obtain ⟨D, hD, hDk⟩ : ∃ D, d + (kr + 10) = D + 10 ∧ kr ≤ D := ⟨d + kr, by omega, by omega⟩
    rw [hD]
    try rw [hD] at hq
    refine mj_blk rfl ?_
    simp +decide only [mjs_0, mjs_1, mjs_2, mjs_3, mjs_ble, true_and, Bool.false_eq_true, if_false, if_true, Nat.reduceAdd, Nat.reduceSub, Nat.reduceLeDiff, false_implies, true_implies, not_false_eq_true, not_true_eq_false, and_true, mm_sh, hm, mjs_up_at, mjs_up_c, mjs_up_f]
    refine rx_at a8 (by omega) hJ trivial (fun H1 J1 c1 c2 _ => ?_)
    simp +decide only [mjs_0, mjs_1, mjs_2, mjs_3, mjs_ble, true_and, Bool.false_eq_true, if_false, if_true, Nat.reduceAdd, Nat.reduceSub, Nat.reduceLeDiff, false_implies, true_implies, not_false_eq_true, not_true_eq_false, and_true, mm_sh, hm, mjs_up_at, mjs_up_c, mjs_up_f]
    exact mj_nv (hq H1 J1 c1 c2 trivial)
  · simp +decide only [mjs_0, mjs_1, mjs_2, mjs_3, mjs_ble, true_and, Bool.false_eq_true, if_false, if_true, Nat.reduceAdd, Nat.reduceSub, Nat.reduceLeDiff, false_implies, true_implies, not_false_eq_true, not_true_eq_false, and_true]
    refine qF g2 I2 a1 ?_
    intro H Lg d nc ns J Q hJ hA hq
    obtain ⟨D, hD, hDk⟩ : ∃ D, d + (kr + 10) = D + 10 ∧ kr ≤ D := ⟨d + kr, by omega, by omega⟩
    rw [hD]
    try rw [hD] at hq
    refine mj_blk rfl ?_
    simp +decide only [mjs_0, mjs_1, mjs_2, mjs_3, mjs_ble, true_and, Bool.false_eq_true, if_false, if_true, Nat.reduceAdd, Nat.reduceSub, Nat.reduceLeDiff, false_implies, true_implies, not_false_eq_true, not_true_eq_false, and_true, mm_sh, hm, mjs_up_at, mjs_up_c, mjs_up_f]
    refine ry_at a2 (by omega) hJ trivial (fun J1 c1 => ?_)
    simp +decide only [mjs_0, mjs_1, mjs_2, mjs_3, mjs_ble, true_and, Bool.false_eq_true, if_false, if_true, Nat.reduceAdd, Nat.reduceSub, Nat.reduceLeDiff, false_implies, true_implies, not_false_eq_true, not_true_eq_false, and_true, mm_sh, hm, mjs_up_at, mjs_up_c, mjs_up_f]
    refine mj_blk rfl ?_
    simp +decide only [mjs_0, mjs_1, mjs_2, mjs_3, mjs_ble, true_and, Bool.false_eq_true, if_false, if_true, Nat.reduceAdd, Nat.reduceSub, Nat.reduceLeDiff, false_implies, true_implies, not_false_eq_true, not_true_eq_false, and_true, mm_sh, hm, mjs_up_at, mjs_up_c, mjs_up_f]
    refine r_121e ?_
    simp +decide only [mjs_0, mjs_1, mjs_2, mjs_3, mjs_ble, true_and, Bool.false_eq_true, if_false, if_true, Nat.reduceAdd, Nat.reduceSub, Nat.reduceLeDiff, false_implies, true_implies, not_false_eq_true, not_true_eq_false, and_true, mm_sh, hm, mjs_up_at, mjs_up_c, mjs_up_f]
    refine mj_blk rfl ?_
    simp +decide only [mjs_0, mjs_1, mjs_2, mjs_3, mjs_ble, true_and, Bool.false_eq_true, if_false, if_true, Nat.reduceAdd, Nat.reduceSub, Nat.reduceLeDiff, false_implies, true_implies, not_false_eq_true, not_true_eq_false, and_true, mm_sh, hm, mjs_up_at, mjs_up_c, mjs_up_f]
    refine r_120 (a := 12) (b := 43) ?_
    rw [if_neg (by decide)]
    simp +decide only [mjs_0, mjs_1, mjs_2, mjs_3, mjs_ble, true_and, Bool.false_eq_true, if_false, if_true, Nat.reduceAdd, Nat.reduceSub, Nat.reduceLeDiff, false_implies, true_implies, not_false_eq_true, not_true_eq_false, and_true, mm_sh, hm, mjs_up_at, mjs_up_c, mjs_up_f]
    refine mj_blk rfl ?_
    simp +decide only [mjs_0, mjs_1, mjs_2, mjs_3, mjs_ble, true_and, Bool.false_eq_true, if_false, if_true, Nat.reduceAdd, Nat.reduceSub, Nat.reduceLeDiff, false_implies, true_implies, not_false_eq_true, not_true_eq_false, and_true, mm_sh, hm, mjs_up_at, mjs_up_c, mjs_up_f]
    refine r_120 (a := 12) (b := 45) ?_
    rw [if_neg (by decide)]
    simp +decide only [mjs_0, mjs_1, mjs_2, mjs_3, mjs_ble, true_and, Bool.false_eq_true, if_false, if_true, Nat.reduceAdd, Nat.reduceSub, Nat.reduceLeDiff, false_implies, true_implies, not_false_eq_true, not_true_eq_false, and_true, mm_sh, hm, mjs_up_at, mjs_up_c, mjs_up_f]
    refine mj_blk rfl ?_
    simp +decide only [mjs_0, mjs_1, mjs_2, mjs_3, mjs_ble, true_and, Bool.false_eq_true, if_false, if_true, Nat.reduceAdd, Nat.reduceSub, Nat.reduceLeDiff, false_implies, true_implies, not_false_eq_true, not_true_eq_false, and_true, mm_sh, hm, mjs_up_at, mjs_up_c, mjs_up_f]
    refine ⟨fun q => absurd q (rd_nle c1), fun _ => mj_blk rfl ?_⟩
    simp +decide only [mjs_0, mjs_1, mjs_2, mjs_3, mjs_ble, true_and, Bool.false_eq_true, if_false, if_true, Nat.reduceAdd, Nat.reduceSub, Nat.reduceLeDiff, false_implies, true_implies, not_false_eq_true, not_true_eq_false, and_true, mm_sh, hm, mjs_up_at, mjs_up_c, mjs_up_f]
    exact hq J1 c1
end MJNU
