/-! 'BY' DROPPED, in both; a number that begins with b -/
def blt (t : Nat) : Prop := t < 3328 ∧ (t % 256 = 98 ∨ t % 256 = 66) ∧ t / 256 ≠ 10
section MJBY
variable {X : mj_X} {d nc ns : Nat} {Q : mj_Q} {I I' J J' H : Nat → Nat → Int32} {Lg : Nat → Nat → Int64} {Rf : Nat → Nat → Option Nat} {fb fb' : Nat → Nat → Int32} {vb : Nat → Int32} {K K' K2 : Nat × Nat × Nat} {P P' P2 : List Nat} {E : sgE} {N N' N2 : sgN} {S S' S2 : sgS} {M : sgM} {C C' C2 : sgC} {O : sgO} {L L' L2 : sgL} {t n kc kr gl s' : Nat}
theorem blt_f (h : blt t) (S : sgS) : ¬ iss t ∧ ¬ isdg (some t) ∧ t ≠ 3168 ∧ ¬ hvl S t ∧ ¬ gx S t := by
  obtain ⟨h1, h2, h3⟩ := h
  have g : gm S t = 196608 + t := by
    unfold gm
    rw [if_neg (by omega), if_pos h1]
  refine ⟨?_, ?_, by omega, ?_, ?_⟩
  · unfold iss
    omega
  · rintro ⟨u, e, e1, e2⟩
    cases e
    omega
  · unfold hvl gp
    rw [g, if_neg (by omega)]
    omega
  · unfold gx
    rw [g]
    omega
theorem cq_85p (hR : mj_Rt mp_R Rf) (hv : gv (K, t :: P, E, N, S, M, C, O, L)) (h : RC fb vb (K, t :: P, E, N, S, M, C, O, L) I) {b : Int32} (hQ : ∀ I', gv (K, P, E, N, S, M, C, O, L) → RC fb vb (K, P, E, N, S, M, C, O, L) I' → Q (.inl (some (.int (nI t)))) (sh59, I', Lg, Rf, nc, ns)) : mj_call X mj_P (mj_bi X) (d + 1) 85 [.ref 17, .int b] (sh59, I, Lg, Rf, nc, ns) Q := by
  obtain ⟨hK, hP, hE, hN, hS, hM, hC, hO, hL, hZ⟩ := rc_d h
  have hlen : P.length + 1 < 10100 := hP.2.1
  refine c_85p (d := d) hR (k := P.length) (by omega) hP.1 ?_
  rw [hP.2.2.1]
  exact hQ _ ⟨fun x hx => (gv_d hv).1 x (List.mem_cons_of_mem _ hx), (gv_d hv).2⟩ ⟨hK, ⟨rfl, show P.length < 10100 by omega, hP.2.2.2⟩, hE, hN, hS, hM, hC, hO, hL, hZ⟩
theorem rs_116p (hM' : mj_Rt mm_R Rf) (hp : P.length ≤ 10100) : RS X Rf 1 116 [.ref 36] (K, t :: P, E, N, S, M, C, O, L) (some (.int (nI (rt t)))) (K, P, E, N, S, M, C, O, L) := by
  intro H Lg d nc ns J Q hJ hq
  obtain ⟨jK, jP, jE, jN, jS, jM, jC, jO, jL, jZ⟩ := rr_d hJ
  refine r_116p (d := d) (mm_W hM') (p := P.length) (by omega) jK.2.2.2 jP.1 ?_
  have e : J (36 + 17) P.length = nI (rt t) := by
    have := jP.2.1
    rw [List.length_map] at this
    exact this
  rw [e]
  exact hq _ ⟨jK, ⟨rfl, jP.2.2⟩, jE, jN, jS, jM, jC, jO, jL, fun c hc => by rw [mj_up_off (by omega)]; exact jZ c hc⟩
/-- number at b: a fault in the reference -/
theorem re_161b (hM' : mj_Rt mm_R Rf) (hv : gv (K, t :: P, E, N, S, M, C, O, L)) (hp : P.length ≤ 10100) (hb : blt t) (hK : K.2.2 < 40) : RY X Rf 11 161 [.ref 36] (K, t :: P, E, N, S, M, C, O, L) na (some (.int 0)) (K, P, E, N, S, M, C, O, L) := by
  have hm := mm_rf hM'
  obtain ⟨b1, b2, b3, b4, b5⟩ := blt_f hb S
  have hv1 : gv ((K.1, K.2.1, K.2.2 + 1), P, E, N, S, M, C, O, L) := gv_K (⟨fun x hx => (gv_d hv).1 x (List.mem_cons_of_mem _ hx), (gv_d hv).2⟩ : gv (K, P, E, N, S, M, C, O, L)) (em_vm (gv_d hv).2.1 (Nat.le_succ _))
  have tvt : tv N.2.2 t := (gv_d hv).1 t List.mem_cons_self
  have hk : N.2.2 ≤ 1036 := (gv_d hv).2.2.1.2.1
  have hk1 : 36 ≤ N.2.2 := (gv_d hv).2.2.1.1
  have ho : ov N.2.2 (some t) := fun u hu => by cases hu; exact tvt
  have hrt := rt_lt hk hk1 tvt
  refine ry_161 (kk := 9) hM' hK (ry_in (k := 8) (z := 4) (by decide) rfl rfl rfl ?_)
  intro H Lg d nc ns J Q hJ hA hq
  have h129 : RX X Rf 6 129 [.ref 36] ((K.1, K.2.1, K.2.2 + 1), t :: P, E, N, S, M, C, O, L) na (some (.int (nI (rt t)))) ((K.1, K.2.1, K.2.2 + 1), P, E, N, S, M, C, O, L) na := by
    refine rx_in (k := 5) (z := 2) (by decide) rfl rfl rfl ?_
    intro H Lg d nc ns J Q hJ hA hq
    refine mj_blk rfl ?_
    simp +decide only [mjs_0, mjs_1, mjs_2, mjs_3, mjs_ble, true_and, Bool.false_eq_true, if_false, if_true, Nat.reduceAdd, Nat.reduceSub, Nat.reduceLeDiff, false_implies, true_implies, not_false_eq_true, not_true_eq_false, and_true, mm_sh, hm, mjs_up_at, mjs_up_c, mjs_up_f]
    refine rs_at (rs_116p hM' hp) (by omega) hJ (fun J3 c3 => ?_)
    simp +decide only [mjs_0, mjs_1, mjs_2, mjs_3, mjs_ble, true_and, Bool.false_eq_true, if_false, if_true, Nat.reduceAdd, Nat.reduceSub, Nat.reduceLeDiff, false_implies, true_implies, not_false_eq_true, not_true_eq_false, and_true, mm_sh, hm, mjs_up_at, mjs_up_c, mjs_up_f]
    refine mj_blk rfl ?_
    simp +decide only [mjs_0, mjs_1, mjs_2, mjs_3, mjs_ble, true_and, Bool.false_eq_true, if_false, if_true, Nat.reduceAdd, Nat.reduceSub, Nat.reduceLeDiff, false_implies, true_implies, not_false_eq_true, not_true_eq_false, and_true, mm_sh, hm, mjs_up_at, mjs_up_c, mjs_up_f]
    refine rq_127 hM' c3 hv1 tvt (fun q => absurd q b5) (fun _ => ?_)
    simp +decide only [mjs_0, mjs_1, mjs_2, mjs_3, mjs_ble, true_and, Bool.false_eq_true, if_false, if_true, Nat.reduceAdd, Nat.reduceSub, Nat.reduceLeDiff, false_implies, true_implies, not_false_eq_true, not_true_eq_false, and_true, mm_sh, hm, mjs_up_at, mjs_up_c, mjs_up_f]
    refine mj_blk rfl ?_
    simp +decide only [mjs_0, mjs_1, mjs_2, mjs_3, mjs_ble, true_and, Bool.false_eq_true, if_false, if_true, Nat.reduceAdd, Nat.reduceSub, Nat.reduceLeDiff, false_implies, true_implies, not_false_eq_true, not_true_eq_false, and_true, mm_sh, hm, mjs_up_at, mjs_up_c, mjs_up_f]
    exact hq H J3 hx_rf c3 trivial
  have h130 := rx_130 (by omega) h129
  refine mj_blk rfl ?_
  simp +decide only [mjs_0, mjs_1, mjs_2, mjs_3, mjs_ble, true_and, Bool.false_eq_true, if_false, if_true, Nat.reduceAdd, Nat.reduceSub, Nat.reduceLeDiff, false_implies, true_implies, not_false_eq_true, not_true_eq_false, and_true, mm_sh, hm, mjs_up_at, mjs_up_c, mjs_up_f]
  refine rx_at h130 (by omega) hJ trivial (fun H1 J1 e1 c1 _ => ?_)
  simp +decide only [mjs_0, mjs_1, mjs_2, mjs_3, mjs_ble, true_and, Bool.false_eq_true, if_false, if_true, Nat.reduceAdd, Nat.reduceSub, Nat.reduceLeDiff, false_implies, true_implies, not_false_eq_true, not_true_eq_false, and_true, mm_sh, hm, mjs_up_at, mjs_up_c, mjs_up_f]
  refine mj_nv (r_162t (neg := 0) hM' hk hk1 tvt (by decide) (fun q => absurd q b1) (fun _ => ?_))
  unfold p_7
  refine mj_blk rfl ?_
  simp +decide only [mjs_0, mjs_1, mjs_2, mjs_3, mjs_ble, true_and, Bool.false_eq_true, if_false, if_true, Nat.reduceAdd, Nat.reduceSub, Nat.reduceLeDiff, false_implies, true_implies, not_false_eq_true, not_true_eq_false, and_true, mm_sh, hm, mjs_up_at, mjs_up_c, mjs_up_f, (rr_d c1).1.2.2.2]
  refine mj_blk rfl ?_
  simp +decide only [mjs_0, mjs_1, mjs_2, mjs_3, mjs_ble, true_and, Bool.false_eq_true, if_false, if_true, Nat.reduceAdd, Nat.reduceSub, Nat.reduceLeDiff, false_implies, true_implies, not_false_eq_true, not_true_eq_false, and_true, mm_sh, hm, mjs_up_at, mjs_up_c, mjs_up_f]
  refine rq_157 (o := some t) hk hk1 ho (fun q => absurd q b2) (fun _ => ?_)
  simp +decide only [mjs_0, mjs_1, mjs_2, mjs_3, mjs_ble, true_and, Bool.false_eq_true, if_false, if_true, Nat.reduceAdd, Nat.reduceSub, Nat.reduceLeDiff, false_implies, true_implies, not_false_eq_true, not_true_eq_false, and_true, mm_sh, hm, mjs_up_at, mjs_up_c, mjs_up_f]
  refine mj_blk rfl ?_
  simp +decide only [mjs_0, mjs_1, mjs_2, mjs_3, mjs_ble, true_and, Bool.false_eq_true, if_false, if_true, Nat.reduceAdd, Nat.reduceSub, Nat.reduceLeDiff, false_implies, true_implies, not_false_eq_true, not_true_eq_false, and_true, mm_sh, hm, mjs_up_at, mjs_up_c, mjs_up_f]
  refine r_120 (a := 12) (b := 96) ?_
  rw [if_neg (fun q => b3 ((rt_c hk hk1 tvt (c := 3168) (by decide)).mp q))]
  simp +decide only [mjs_0, mjs_1, mjs_2, mjs_3, mjs_ble, true_and, Bool.false_eq_true, if_false, if_true, Nat.reduceAdd, Nat.reduceSub, Nat.reduceLeDiff, false_implies, true_implies, not_false_eq_true, not_true_eq_false, and_true, mm_sh, hm, mjs_up_at, mjs_up_c, mjs_up_f]
  refine mj_blk rfl ?_
  simp +decide only [mjs_0, mjs_1, mjs_2, mjs_3, mjs_ble, true_and, Bool.false_eq_true, if_false, if_true, Nat.reduceAdd, Nat.reduceSub, Nat.reduceLeDiff, false_implies, true_implies, not_false_eq_true, not_true_eq_false, and_true, mm_sh, hm, mjs_up_at, mjs_up_c, mjs_up_f]
  refine rq_154 hM' c1 hv1 tvt (fun q => absurd q b4) (fun _ => ?_)
  simp +decide only [mjs_0, mjs_1, mjs_2, mjs_3, mjs_ble, true_and, Bool.false_eq_true, if_false, if_true, Nat.reduceAdd, Nat.reduceSub, Nat.reduceLeDiff, false_implies, true_implies, not_false_eq_true, not_true_eq_false, and_true, mm_sh, hm, mjs_up_at, mjs_up_c, mjs_up_f]
  refine mj_blk rfl ?_
  simp +decide only [mjs_0, mjs_1, mjs_2, mjs_3, mjs_ble, true_and, Bool.false_eq_true, if_false, if_true, Nat.reduceAdd, Nat.reduceSub, Nat.reduceLeDiff, false_implies, true_implies, not_false_eq_true, not_true_eq_false, and_true, mm_sh, hm, mjs_up_at, mjs_up_c, mjs_up_f]
  refine c_106 s59_36 ?_
  rw [if_pos (rr_d c1).1.2.2.2]
  simp +decide only [mjs_0, mjs_1, mjs_2, mjs_3, mjs_ble, true_and, Bool.false_eq_true, if_false, if_true, Nat.reduceAdd, Nat.reduceSub, Nat.reduceLeDiff, false_implies, true_implies, not_false_eq_true, not_true_eq_false, and_true, mm_sh, hm, mjs_up_at, mjs_up_c, mjs_up_f]
  exact mj_nv (f_133 (neg := 0) hM' (rr_f (f := 6) (by decide) (by decide) c1) (fun J' c => hq J' (rd_hx c e1)))
/-- number at b: a fault in the class -/
theorem p_38b (hR : mj_Rt mp_R Rf) (hM' : mj_Rt mm_R Rf) {n' kc' kr' D : Nat} (hN : NU X Rf vb kc' kr' n') (hD : kc' + 8 ≤ D) (hn : K.2.2 + 1 + n' = 40) (hr' : nc + 1 ≤ X.2.2.1 ∧ ns + 6 ≤ X.2.2.2) (hv : gv (K, t :: P, E, N, S, M, C, O, L)) (hw : gw K S) (hp : P.length ≤ 10000) (hb : blt t) (h : RC fb vb (K, t :: P, E, N, S, M, C, O, L) I)
    (hQ3 : ∀ I', RCf fb vb (K, P, E, N, S, M, C, O, L) I' → Q (.inr 500) (sh59, I', Lg, Rf, nc + 1, ns + 6)) :
    mj_call X mj_P (mj_bi X) D 38 [.ref 28] (sh59, I, Lg, Rf, nc, ns) Q := by
  have hr := mc_rf hR
  obtain ⟨b1, b2, b3, b4, b5⟩ := blt_f hb S
  obtain ⟨d, rfl⟩ : ∃ d, D = d + 8 := ⟨D - 8, by omega⟩
  have k3 : I 1 3 = nI K.2.2 := (rc_d h).1.2.2.1
  have k5 := (rc_d h).1.2.2.2
  have hv1 : gv ((K.1, K.2.1, K.2.2 + 1), t :: P, E, N, S, M, C, O, L) := gv_K hv (em_vm (gv_d hv).2.1 (Nat.le_succ _))
  have hw1 : gw (K.1, K.2.1, K.2.2 + 1) S := hw
  have h1 := rc_K (dp := K.2.2 + 1) h (by omega)
  have tvt : tv N.2.2 t := (gv_d hv).1 t List.mem_cons_self
  have hk : N.2.2 ≤ 1036 := (gv_d hv).2.2.1.2.1
  have htl := tv_lt hk tvt
  refine mj_enter (z := (4, [], mb_38)) (by decide) rfl rfl ?_
  refine mj_blk rfl ?_
  simp +decide only [mjs_0, mjs_1, mjs_2, mjs_3, mjs_ble, true_and, Bool.false_eq_true, if_false, if_true, Nat.reduceAdd, Nat.reduceSub, Nat.reduceLeDiff, false_implies, true_implies, not_false_eq_true, not_true_eq_false, and_true, mc_sh, hr, mjs_up_at, mjs_up_c, mjs_up_f]
  refine c_78 (k := K.2.2) (by omega) k3 hr' (fun _ => ?_) (fun e => absurd e (by omega))
  simp +decide only [mjs_0, mjs_1, mjs_2, mjs_3, mjs_ble, true_and, Bool.false_eq_true, if_false, if_true, Nat.reduceAdd, Nat.reduceSub, Nat.reduceLeDiff, false_implies, true_implies, not_false_eq_true, not_true_eq_false, and_true, mc_sh]
  refine mj_enter (z := (4, [], mb_22)) (by decide) rfl rfl ?_
  refine mj_blk rfl ?_
  simp +decide only [mjs_0, mjs_1, mjs_2, mjs_3, mjs_ble, true_and, Bool.false_eq_true, if_false, if_true, Nat.reduceAdd, Nat.reduceSub, Nat.reduceLeDiff, false_implies, true_implies, not_false_eq_true, not_true_eq_false, and_true, mc_sh, hr, mjs_up_at, mjs_up_c, mjs_up_f]
  refine cq_85p hR hv1 h1 (fun I2 a1 a2 => ?_)
  simp +decide only [mjs_0, mjs_1, mjs_2, mjs_3, mjs_ble, true_and, Bool.false_eq_true, if_false, if_true, Nat.reduceAdd, Nat.reduceSub, Nat.reduceLeDiff, false_implies, true_implies, not_false_eq_true, not_true_eq_false, and_true]
  refine mj_blk rfl ?_
  simp +decide only [mjs_0, mjs_1, mjs_2, mjs_3, mjs_ble, true_and, Bool.false_eq_true, if_false, if_true, Nat.reduceAdd, Nat.reduceSub, Nat.reduceLeDiff, false_implies, true_implies, not_false_eq_true, not_true_eq_false, and_true]
  refine mj_blk rfl ?_
  simp +decide only [mjs_0, mjs_1, mjs_2, mjs_3, mjs_ble, true_and, Bool.false_eq_true, if_false, if_true, Nat.reduceAdd, Nat.reduceSub, Nat.reduceLeDiff, false_implies, true_implies, not_false_eq_true, not_true_eq_false, and_true, mc_sh]
  refine cq_24 hR a2 a1 tvt (fun q => absurd q b5) (fun _ => ?_)
  simp +decide only [mjs_0, mjs_1, mjs_2, mjs_3, mjs_ble, true_and, Bool.false_eq_true, if_false, if_true, Nat.reduceAdd, Nat.reduceSub, Nat.reduceLeDiff, false_implies, true_implies, not_false_eq_true, not_true_eq_false, and_true]
  refine mj_blk rfl ?_
  simp +decide only [mjs_0, mjs_1, mjs_2, mjs_3, mjs_ble, true_and, Bool.false_eq_true, if_false, if_true, Nat.reduceAdd, Nat.reduceSub, Nat.reduceLeDiff, false_implies, true_implies, not_false_eq_true, not_true_eq_false, and_true]
  refine mj_blk rfl ?_
  simp +decide only [mjs_0, mjs_1, mjs_2, mjs_3, mjs_ble, true_and, Bool.false_eq_true, if_false, if_true, Nat.reduceAdd, Nat.reduceSub, Nat.reduceLeDiff, false_implies, true_implies, not_false_eq_true, not_true_eq_false, and_true]
  refine mj_blk rfl ?_
  simp +decide only [mjs_0, mjs_1, mjs_2, mjs_3, mjs_ble, true_and, Bool.false_eq_true, if_false, if_true, Nat.reduceAdd, Nat.reduceSub, Nat.reduceLeDiff, false_implies, true_implies, not_false_eq_true, not_true_eq_false, and_true]
  refine cq_39 (by omega) (fun q => absurd q b1) (fun _ => ?_)
  simp +decide only [mjs_0, mjs_1, mjs_2, mjs_3, mjs_ble, true_and, Bool.false_eq_true, if_false, if_true, Nat.reduceAdd, Nat.reduceSub, Nat.reduceLeDiff, false_implies, true_implies, not_false_eq_true, not_true_eq_false, and_true]
  refine mj_blk rfl ?_
  simp +decide only [mjs_0, mjs_1, mjs_2, mjs_3, mjs_ble, true_and, Bool.false_eq_true, if_false, if_true, Nat.reduceAdd, Nat.reduceSub, Nat.reduceLeDiff, false_implies, true_implies, not_false_eq_true, not_true_eq_false, and_true]
  refine cq_191 (o := some t) (fun u hu => by cases hu; omega) ?_
  rw [tdg_n b2]
  simp +decide only [mjs_0, mjs_1, mjs_2, mjs_3, mjs_ble, true_and, Bool.false_eq_true, if_false, if_true, Nat.reduceAdd, Nat.reduceSub, Nat.reduceLeDiff, false_implies, true_implies, not_false_eq_true, not_true_eq_false, and_true]
  refine mj_blk rfl ?_
  simp +decide only [mjs_0, mjs_1, mjs_2, mjs_3, mjs_ble, true_and, Bool.false_eq_true, if_false, if_true, Nat.reduceAdd, Nat.reduceSub, Nat.reduceLeDiff, false_implies, true_implies, not_false_eq_true, not_true_eq_false, and_true]
  refine ⟨fun _ => mj_blk rfl ?_, fun q => absurd (fun q => b3 ((nI_eq (b := 3168) (by omega) (by decide)).mp q)) q⟩
  simp +decide only [mjs_0, mjs_1, mjs_2, mjs_3, mjs_ble, true_and, Bool.false_eq_true, if_false, if_true, Nat.reduceAdd, Nat.reduceSub, Nat.reduceLeDiff, false_implies, true_implies, not_false_eq_true, not_true_eq_false, and_true, mc_sh]
  refine p_43 (kc := kc') hR hM' hN (by omega) hn hr' a1 hw1 hp tvt a2 (fun fb' K' P' N' S' C' L' I' x q1 q2 q3 q4 q5 q6 => absurd q6 b4) (fun _ I3 c1 => ?_) (fun q => absurd q b4)
  simp +decide only [mjs_0, mjs_1, mjs_2, mjs_3, mjs_ble, true_and, Bool.false_eq_true, if_false, if_true, Nat.reduceAdd, Nat.reduceSub, Nat.reduceLeDiff, false_implies, true_implies, not_false_eq_true, not_true_eq_false, and_true]
  exact hQ3 I3 c1
/-- isLetter -/
theorem cq_73 {S' : mj_S} {a b : Nat} (ht : t < 2 ^ 31) (ha : a < 256) (hb : b < 256) (hQ1 : t < 3328 ∧ (t % 256 = a ∨ t % 256 = b) → Q (.inl (some (.int 1))) S') (hQ0 : ¬ (t < 3328 ∧ (t % 256 = a ∨ t % 256 = b)) → Q (.inl (some (.int 0))) S') : mj_call X mj_P (mj_bi X) (d + 2) 73 [.int (nI t), .int (nI a), .int (nI b)] S' Q := by
  have no : ¬ (t < 3328 ∧ (t % 256 = a ∨ t % 256 = b)) → mj_rn X (mj_hd []) (mj_call X mj_P (mj_bi X) (d + 1)) mb_73 27 [none, none, none, none] [] S' Q := by
    intro q
    refine mj_blk rfl ?_
    simp +decide only [mjs_0, mjs_1, mjs_2, mjs_3, mjs_ble, true_and, Bool.false_eq_true, if_false, if_true, Nat.reduceAdd, Nat.reduceSub, Nat.reduceLeDiff, false_implies, true_implies, not_false_eq_true, not_true_eq_false, and_true]
    refine mj_blk rfl ?_
    simp +decide only [mjs_0, mjs_1, mjs_2, mjs_3, mjs_ble, true_and, Bool.false_eq_true, if_false, if_true, Nat.reduceAdd, Nat.reduceSub, Nat.reduceLeDiff, false_implies, true_implies, not_false_eq_true, not_true_eq_false, and_true]
    exact hQ0 q
  have yes : (t < 3328 ∧ (t % 256 = a ∨ t % 256 = b)) → mj_rn X (mj_hd []) (mj_call X mj_P (mj_bi X) (d + 1)) mb_73 23 [none, none, none, none] [] S' Q := by
    intro q
    refine mj_blk rfl ?_
    simp +decide only [mjs_0, mjs_1, mjs_2, mjs_3, mjs_ble, true_and, Bool.false_eq_true, if_false, if_true, Nat.reduceAdd, Nat.reduceSub, Nat.reduceLeDiff, false_implies, true_implies, not_false_eq_true, not_true_eq_false, and_true]
    refine mj_blk rfl ?_
    simp +decide only [mjs_0, mjs_1, mjs_2, mjs_3, mjs_ble, true_and, Bool.false_eq_true, if_false, if_true, Nat.reduceAdd, Nat.reduceSub, Nat.reduceLeDiff, false_implies, true_implies, not_false_eq_true, not_true_eq_false, and_true]
    exact hQ1 q
  refine mj_enter (z := (4, [], mb_73)) (by decide) rfl rfl ?_
  refine mj_blk rfl ?_
  simp +decide only [mjs_0, mjs_1, mjs_2, mjs_3, mjs_ble, true_and, Bool.false_eq_true, if_false, if_true, Nat.reduceAdd, Nat.reduceSub, Nat.reduceLeDiff, false_implies, true_implies, not_false_eq_true, not_true_eq_false, and_true, bt_255]
  refine c_188 ht ?_
  by_cases h1 : t < 3328
  · rw [if_pos h1]
    simp +decide only [mjs_0, mjs_1, mjs_2, mjs_3, mjs_ble, true_and, Bool.false_eq_true, if_false, if_true, Nat.reduceAdd, Nat.reduceSub, Nat.reduceLeDiff, false_implies, true_implies, not_false_eq_true, not_true_eq_false, and_true]
    refine mj_blk rfl ?_
    simp +decide only [mjs_0, mjs_1, mjs_2, mjs_3, mjs_ble, true_and, Bool.false_eq_true, if_false, if_true, Nat.reduceAdd, Nat.reduceSub, Nat.reduceLeDiff, false_implies, true_implies, not_false_eq_true, not_true_eq_false, and_true]
    by_cases h2 : t % 256 = a
    · exact ⟨fun _ => mj_nv (yes ⟨h1, Or.inl h2⟩), fun q => absurd (congrArg nI h2) q⟩
    · refine ⟨fun q => absurd ((nI_eq (by omega) (by omega)).mp q) h2, fun _ => mj_blk rfl ?_⟩
      simp +decide only [mjs_0, mjs_1, mjs_2, mjs_3, mjs_ble, true_and, Bool.false_eq_true, if_false, if_true, Nat.reduceAdd, Nat.reduceSub, Nat.reduceLeDiff, false_implies, true_implies, not_false_eq_true, not_true_eq_false, and_true]
      by_cases h3 : t % 256 = b
      · exact ⟨fun q => absurd (congrArg nI h3) q, fun _ => mj_nv (yes ⟨h1, Or.inr h3⟩)⟩
      · exact ⟨fun _ => mj_nv (no (fun q => by omega)), fun q => absurd (fun q => h3 ((nI_eq (by omega) (by omega)).mp q)) q⟩
  · rw [if_neg h1]
    simp +decide only [mjs_0, mjs_1, mjs_2, mjs_3, mjs_ble, true_and, Bool.false_eq_true, if_false, if_true, Nat.reduceAdd, Nat.reduceSub, Nat.reduceLeDiff, false_implies, true_implies, not_false_eq_true, not_true_eq_false, and_true]
    exact mj_nv (no (fun q => h1 q.1))
theorem rq_174 {S' : mj_S} {k a b : Nat} (hk : k ≤ 1036) (h3 : 36 ≤ k) (ht : tv k t) (ha : a < 256) (hab : b + 32 = a) (hQ1 : t < 3328 ∧ (t % 256 = a ∨ t % 256 = b) → Q (.inl (some (.int 1))) S') (hQ0 : ¬ (t < 3328 ∧ (t % 256 = a ∨ t % 256 = b)) → Q (.inl (some (.int 0))) S') : mj_call X mj_P (mj_bi X) (d + 2) 174 [.ref 36, .int (nI (rt t)), .int (nI a)] S' Q := by
  have hrt := rt_lt hk h3 ht
  have s3 := (pl_sl hk ht).2.2.1
  have no : ¬ (t < 3328 ∧ (t % 256 = a ∨ t % 256 = b)) → mj_rn X (mj_hd []) (mj_call X mj_P (mj_bi X) (d + 1)) mb_174 32 [none, none, none] [] S' Q := by
    intro q
    refine mj_blk rfl ?_
    simp +decide only [mjs_0, mjs_1, mjs_2, mjs_3, mjs_ble, true_and, Bool.false_eq_true, if_false, if_true, Nat.reduceAdd, Nat.reduceSub, Nat.reduceLeDiff, false_implies, true_implies, not_false_eq_true, not_true_eq_false, and_true]
    refine mj_blk rfl ?_
    simp +decide only [mjs_0, mjs_1, mjs_2, mjs_3, mjs_ble, true_and, Bool.false_eq_true, if_false, if_true, Nat.reduceAdd, Nat.reduceSub, Nat.reduceLeDiff, false_implies, true_implies, not_false_eq_true, not_true_eq_false, and_true]
    exact hQ0 q
  have yes : (t < 3328 ∧ (t % 256 = a ∨ t % 256 = b)) → mj_rn X (mj_hd []) (mj_call X mj_P (mj_bi X) (d + 1)) mb_174 28 [none, none, none] [] S' Q := by
    intro q
    refine mj_blk rfl ?_
    simp +decide only [mjs_0, mjs_1, mjs_2, mjs_3, mjs_ble, true_and, Bool.false_eq_true, if_false, if_true, Nat.reduceAdd, Nat.reduceSub, Nat.reduceLeDiff, false_implies, true_implies, not_false_eq_true, not_true_eq_false, and_true]
    refine mj_blk rfl ?_
    simp +decide only [mjs_0, mjs_1, mjs_2, mjs_3, mjs_ble, true_and, Bool.false_eq_true, if_false, if_true, Nat.reduceAdd, Nat.reduceSub, Nat.reduceLeDiff, false_implies, true_implies, not_false_eq_true, not_true_eq_false, and_true]
    exact hQ1 q
  refine mj_enter (z := (3, [], mb_174)) (by decide) rfl rfl ?_
  refine mj_blk rfl ?_
  simp +decide only [mjs_0, mjs_1, mjs_2, mjs_3, mjs_ble, true_and, Bool.false_eq_true, if_false, if_true, Nat.reduceAdd, Nat.reduceSub, Nat.reduceLeDiff, false_implies, true_implies, not_false_eq_true, not_true_eq_false, and_true]
  refine r_119 (by omega) ?_
  by_cases h1 : t < 3328
  · have ert : rt t = t := by
      unfold rt rb
      rw [if_neg (by omega), if_pos (by omega)]
    have f1 : nI t - nI t / 256 * 256 = nI (t % 256) := pk_rem (d := 256) (by omega) (by decide) (by decide)
    have f2 : nI a - 32 = nI b := by
      rw [show (32 : Int32) = nI 32 from rfl, pk_sub (by omega)]
      exact congrArg nI (by omega)
    rw [if_pos (s3.mp h1), ert]
    simp +decide only [mjs_0, mjs_1, mjs_2, mjs_3, mjs_ble, true_and, Bool.false_eq_true, if_false, if_true, Nat.reduceAdd, Nat.reduceSub, Nat.reduceLeDiff, false_implies, true_implies, not_false_eq_true, not_true_eq_false, and_true]
    refine mj_blk rfl ?_
    simp +decide only [mjs_0, mjs_1, mjs_2, mjs_3, mjs_ble, true_and, Bool.false_eq_true, if_false, if_true, Nat.reduceAdd, Nat.reduceSub, Nat.reduceLeDiff, false_implies, true_implies, not_false_eq_true, not_true_eq_false, and_true, f1]
    by_cases h2 : t % 256 = a
    · exact ⟨fun _ => mj_nv (yes ⟨h1, Or.inl h2⟩), fun q => absurd (congrArg nI h2) q⟩
    · refine ⟨fun q => absurd ((nI_eq (by omega) (by omega)).mp q) h2, fun _ => mj_blk rfl ?_⟩
      simp +decide only [mjs_0, mjs_1, mjs_2, mjs_3, mjs_ble, true_and, Bool.false_eq_true, if_false, if_true, Nat.reduceAdd, Nat.reduceSub, Nat.reduceLeDiff, false_implies, true_implies, not_false_eq_true, not_true_eq_false, and_true, f1, f2]
      by_cases h3 : t % 256 = b
      · exact ⟨fun q => absurd (congrArg nI h3) q, fun _ => mj_nv (yes ⟨h1, Or.inr h3⟩)⟩
      · exact ⟨fun _ => mj_nv (no (fun q => by omega)), fun q => absurd (fun q => h3 ((nI_eq (by omega) (by omega)).mp q)) q⟩
  · rw [if_neg (fun q => h1 (s3.mpr q))]
    simp +decide only [mjs_0, mjs_1, mjs_2, mjs_3, mjs_ble, true_and, Bool.false_eq_true, if_false, if_true, Nat.reduceAdd, Nat.reduceSub, Nat.reduceLeDiff, false_implies, true_implies, not_false_eq_true, not_true_eq_false, and_true]
    exact mj_nv (no (fun q => h1 q.1))
theorem r_174e {S' : mj_S} {a : Int32} (hQ : Q (.inl (some (.int 0))) S') : mj_call X mj_P (mj_bi X) (d + 2) 174 [.ref 36, .int (-1), .int a] S' Q := by
  refine mj_enter (z := (3, [], mb_174)) (by decide) rfl rfl ?_
  refine mj_blk rfl ?_
  simp +decide only [mjs_0, mjs_1, mjs_2, mjs_3, mjs_ble, true_and, Bool.false_eq_true, if_false, if_true, Nat.reduceAdd, Nat.reduceSub, Nat.reduceLeDiff, false_implies, true_implies, not_false_eq_true, not_true_eq_false, and_true]
  refine r_119e ?_
  simp +decide only [mjs_0, mjs_1, mjs_2, mjs_3, mjs_ble, true_and, Bool.false_eq_true, if_false, if_true, Nat.reduceAdd, Nat.reduceSub, Nat.reduceLeDiff, false_implies, true_implies, not_false_eq_true, not_true_eq_false, and_true]
  refine mj_blk rfl ?_
  simp +decide only [mjs_0, mjs_1, mjs_2, mjs_3, mjs_ble, true_and, Bool.false_eq_true, if_false, if_true, Nat.reduceAdd, Nat.reduceSub, Nat.reduceLeDiff, false_implies, true_implies, not_false_eq_true, not_true_eq_false, and_true]
  refine mj_blk rfl ?_
  simp +decide only [mjs_0, mjs_1, mjs_2, mjs_3, mjs_ble, true_and, Bool.false_eq_true, if_false, if_true, Nat.reduceAdd, Nat.reduceSub, Nat.reduceLeDiff, false_implies, true_implies, not_false_eq_true, not_true_eq_false, and_true]
  exact hQ
end MJBY
