/-! A MACRO'S BODY, in both -/
def z8 (e g : Nat) (u : Int32) (h n b dp : Nat) : mj_LV := [some (.ref 36), some (.int (nI e)), some (.int (nI g)), some (.int u), some (.int (nI h)), some (.int (nI n)), none, some (.int (nI b)), some (.int (nI dp)), none]
def z7 (e g : Nat) (u : Int32) (h n : Nat) (x : Int32) (b dp : Nat) : mj_LV := [some (.ref 36), some (.int (nI e)), some (.int (nI g)), some (.int u), some (.int (nI h)), some (.int (nI n)), some (.int x), some (.int (nI b)), some (.int (nI dp)), none]
def z9 (e g : Nat) (u : Int32) (h n : Nat) (x : Int32) (b dp : Nat) (y : Int32) : mj_LV := [some (.ref 36), some (.int (nI e)), some (.int (nI g)), some (.int u), some (.int (nI h)), some (.int (nI n)), some (.int x), some (.int (nI b)), some (.int (nI dp)), some (.int y)]
def z3 (g : Nat) (u : Int32) (h n b : Nat) : mj_LV := [some (.ref 36), none, some (.int (nI g)), some (.int u), some (.int (nI h)), some (.int (nI n)), none, some (.int (nI b)), none, none]
def bod (M : sgM) (b n : Nat) : Prop := ∀ i, b ≤ i → i < M.2.2.2.1 → 2097152 ≤ M.1 i → M.1 i ≤ 2097152 + n
theorem bod_ad {M : sgM} {b n v : Nat} (h : bod M b n) (h1 : 2097152 ≤ v → v ≤ 2097152 + n) : bod (adM M v) b n := by
  intro i i1 i2 i3
  have i2' : i < M.2.2.2.1 + 1 := i2
  by_cases e : i = M.2.2.2.1
  · rw [e] at i3 ⊢
    rw [show (adM M v).1 M.2.2.2.1 = v from ud_at] at i3 ⊢
    exact h1 i3
  · rw [show (adM M v).1 i = M.1 i from ud_ne e] at i3 ⊢
    exact h i i1 (by omega) i3
/-- a token of the body got, expanded or not -/
def GT (X : mj_X) (Rf : Nat → Nat → Option Nat) (kr xf : Nat) (g : sg) (x : Int32) (g' : sg) : Prop := (xf = 1 → RX X Rf (kr + 1) 130 [.ref 36] g na (some (.int x)) g' na) ∧ (xf = 0 → RX X Rf (kr + 1) 117 [.ref 36] g na (some (.int x)) g' na)
def GF (X : mj_X) (Rf : Nat → Nat → Option Nat) (kr xf : Nat) (g : sg) (g' : sg) : Prop := (xf = 1 → RY X Rf (kr + 1) 130 [.ref 36] g na (some (.int (-1))) g') ∧ (xf = 0 → RY X Rf (kr + 1) 117 [.ref 36] g na (some (.int (-1))) g')
section MJBD
variable {X : mj_X} {d nc ns : Nat} {Q : mj_Q} {I I' J J' H : Nat → Nat → Int32} {Lg : Nat → Nat → Int64} {Rf : Nat → Nat → Option Nat} {fb fb' : Nat → Nat → Int32} {vb : Nat → Int32} {K K' K2 : Nat × Nat × Nat} {P P' P2 : List Nat} {E : sgE} {N N' N2 : sgN} {S S' S2 : sgS} {M M' : sgM} {C C' C2 : sgC} {O : sgO} {L L' L2 : sgL} {t n kc kr gl s' k a v xf h0 m b dp : Nat} {u : Int32} {g g' : sg}
theorem rx_117 (h6 : 6 ≤ kr) {x : Int32} (h : RS X Rf 6 117 [.ref 36] g (some (.int x)) g') : RX X Rf (kr + 1) 117 [.ref 36] g na (some (.int x)) g' na := rx_k _ (rx_rs h) (by omega)
theorem ry_117 (h6 : 6 ≤ kr) {x : Int32} (h : RF X Rf 6 117 [.ref 36] g (some (.int x)) g') : RY X Rf (kr + 1) 117 [.ref 36] g na (some (.int x)) g' := ry_k _ (ry_rf h) (by omega)
theorem p_tok (hR : mj_Rt mp_R Rf) (hM' : mj_Rt mm_R Rf) (hX : XD X Rf vb kc kr m) (h12 : 12 ≤ kr) (hxf : xf = 0 ∨ xf = 1) {D : Nat} (hD : kc + 3 ≤ D) (hn : K.2.2 + m = 40) (hr' : nc + 1 ≤ X.2.2.1 ∧ ns + 6 ≤ X.2.2.2) (hv : gv (K, P, E, N, S, M, C, O, L)) (hw : gw K S) (hp : P.length ≤ 10000) (h : RC fb vb (K, P, E, N, S, M, C, O, L) I) {w2 w3 w4 w5 w6 w7 : Value}
    (hQ1 : ∀ fb' K' P' N' S' C' L' I' t, gv (K', P', E, N', S', M, C', O, L') → RC fb' vb (K', P', E, N', S', M, C', O, L') I' → P'.length ≤ 9999 → xs K P N S C L K' P' N' S' C' L' → mu K' P' L' < mu K P L → tv N'.2.2 t → GT X Rf kr xf (K, P, E, N, S, M, C, O, L) (nI (rt t)) (K', P', E, N', S', M, C', O, L') → mj_rn X (mj_hd []) (mj_call X mj_P (mj_bi X) D) mb_66 62 [some (.ref 34), some (.int (nI xf)), some w2, some w3, some w4, some w5, some w6, some w7, none, none] [.int (nI t)] (sh59, I', Lg, Rf, nc, ns) Q)
    (hQ3 : ∀ g' I', RCf fb vb g' I' → GF X Rf kr xf (K, P, E, N, S, M, C, O, L) g' → Q (.inr 500) (sh59, I', Lg, Rf, nc + 1, ns + 6)) :
    mj_rn X (mj_hd []) (mj_call X mj_P (mj_bi X) D) mb_66 39 [some (.ref 34), some (.int (nI xf)), some w2, some w3, some w4, some w5, some w6, some w7, none, none] [] (sh59, I, Lg, Rf, nc, ns) Q := by
  have hr := mc_rf hR
  obtain ⟨d, rfl⟩ : ∃ d, D = d + 3 := ⟨D - 3, by omega⟩
  rcases hxf with rfl | rfl
  · refine mj_blk rfl ?_
    simp +decide only [mjs_0, mjs_1, mjs_2, mjs_3, mjs_ble, true_and, Bool.false_eq_true, if_false, if_true, Nat.reduceAdd, Nat.reduceSub, Nat.reduceLeDiff, false_implies, true_implies, not_false_eq_true, not_true_eq_false, and_true]
    refine mj_blk rfl ?_
    simp +decide only [mjs_0, mjs_1, mjs_2, mjs_3, mjs_ble, true_and, Bool.false_eq_true, if_false, if_true, Nat.reduceAdd, Nat.reduceSub, Nat.reduceLeDiff, false_implies, true_implies, not_false_eq_true, not_true_eq_false, and_true, mc_sh, hr, mjs_up_at, mjs_up_c, mjs_up_f]
    refine p_85n hR hM' hv h hp hr' (fun t3 P3 N3 L3 I3 a1 a2 a3 a4 a5 a6 a7 a8 => ?_) (fun g3 I3 a1 a2 => ?_)
    · simp +decide only [mjs_0, mjs_1, mjs_2, mjs_3, mjs_ble, true_and, Bool.false_eq_true, if_false, if_true, Nat.reduceAdd, Nat.reduceSub, Nat.reduceLeDiff, false_implies, true_implies, not_false_eq_true, not_true_eq_false, and_true]
      exact mj_nv (hQ1 fb K P3 N3 S C L3 I3 t3 a1 a2 a5.1 (xs_get a3 (Nat.le_of_lt a4) a6) (by unfold mu; omega) a7 ⟨fun q => absurd q (by decide), fun _ => rx_117 (by omega) a8⟩)
    · simp +decide only [mjs_0, mjs_1, mjs_2, mjs_3, mjs_ble, true_and, Bool.false_eq_true, if_false, if_true, Nat.reduceAdd, Nat.reduceSub, Nat.reduceLeDiff, false_implies, true_implies, not_false_eq_true, not_true_eq_false, and_true]
      exact hQ3 g3 I3 a1 ⟨fun q => absurd q (by decide), fun _ => ry_117 (by omega) a2⟩
  · refine mj_blk rfl ?_
    simp +decide only [mjs_0, mjs_1, mjs_2, mjs_3, mjs_ble, true_and, Bool.false_eq_true, if_false, if_true, Nat.reduceAdd, Nat.reduceSub, Nat.reduceLeDiff, false_implies, true_implies, not_false_eq_true, not_true_eq_false, and_true]
    refine mj_blk rfl ?_
    simp +decide only [mjs_0, mjs_1, mjs_2, mjs_3, mjs_ble, true_and, Bool.false_eq_true, if_false, if_true, Nat.reduceAdd, Nat.reduceSub, Nat.reduceLeDiff, false_implies, true_implies, not_false_eq_true, not_true_eq_false, and_true, mc_sh, hr, mjs_up_at, mjs_up_c, mjs_up_f]
    refine xd_n hX (by omega) hn hr' hv hw hp h (fun fb2 K2 P2 N2 S2 C2 L2 I2 t2 a1 a2 a3 a4 a5 a6 a7 a8 => ?_) (fun g2 I2 a1 a2 => ?_)
    · simp +decide only [mjs_0, mjs_1, mjs_2, mjs_3, mjs_ble, true_and, Bool.false_eq_true, if_false, if_true, Nat.reduceAdd, Nat.reduceSub, Nat.reduceLeDiff, false_implies, true_implies, not_false_eq_true, not_true_eq_false, and_true]
      exact mj_nv (hQ1 fb2 K2 P2 N2 S2 C2 L2 I2 t2 a1 a2 a3 a4 a5 a6 ⟨fun _ => a8, fun q => absurd q (by decide)⟩)
    · simp +decide only [mjs_0, mjs_1, mjs_2, mjs_3, mjs_ble, true_and, Bool.false_eq_true, if_false, if_true, Nat.reduceAdd, Nat.reduceSub, Nat.reduceLeDiff, false_implies, true_implies, not_false_eq_true, not_true_eq_false, and_true]
      exact hQ3 g2 I2 a1 ⟨fun _ => a2, fun q => absurd q (by decide)⟩
/-- behind a fault -/
theorem f_177e (hM' : mj_Rt mm_R Rf) {D : Nat} (hJ : RD H g' J) (hq : Q (.inl none) (sh59, J, Lg, Rf, nc, ns)) : mj_rn X (mj_hd []) (mj_call X mj_P (mj_bi X) D) mb_177 144 (z8 xf gl u h0 n b dp) [] (sh59, J, Lg, Rf, nc, ns) Q := by
  have hm := mm_rf hM'
  unfold z8
  refine mj_blk rfl ?_
  simp +decide only [mjs_0, mjs_1, mjs_2, mjs_3, mjs_ble, true_and, Bool.false_eq_true, if_false, if_true, Nat.reduceAdd, Nat.reduceSub, Nat.reduceLeDiff, false_implies, true_implies, not_false_eq_true, not_true_eq_false, and_true, mm_sh, hm, mjs_up_at, mjs_up_c, mjs_up_f]
  refine ⟨fun _ => mj_nv (f_177d (k := b) (gl := gl) (u := u) (h0 := h0) (n := n) (w1 := none) (w5 := none) (w7 := none) (w8 := none) (h0' := .ref 0) hM' hJ hq), fun q => absurd (rd_ne hJ) q⟩
theorem f_325 (hM' : mj_Rt mm_R Rf) {D : Nat} {x : Int32} (hJ : RD H g' J) (hq : Q (.inl none) (sh59, J, Lg, Rf, nc, ns)) : mj_rn X (mj_hd []) (mj_call X mj_P (mj_bi X) (D + 5)) mb_177 325 (z7 xf gl u h0 n x b dp) [] (sh59, J, Lg, Rf, nc, ns) Q := by
  have hm := mm_rf hM'
  unfold z7
  refine mj_blk rfl ?_
  simp +decide only [mjs_0, mjs_1, mjs_2, mjs_3, mjs_ble, true_and, Bool.false_eq_true, if_false, if_true, Nat.reduceAdd, Nat.reduceSub, Nat.reduceLeDiff, false_implies, true_implies, not_false_eq_true, not_true_eq_false, and_true, mm_sh, hm, mjs_up_at, mjs_up_c, mjs_up_f]
  refine f_176 s59_36 (rd_ne hJ) ?_
  simp +decide only [mjs_0, mjs_1, mjs_2, mjs_3, mjs_ble, true_and, Bool.false_eq_true, if_false, if_true, Nat.reduceAdd, Nat.reduceSub, Nat.reduceLeDiff, false_implies, true_implies, not_false_eq_true, not_true_eq_false, and_true, mm_sh, hm, mjs_up_at, mjs_up_c, mjs_up_f]
  exact mj_nv (f_177e (xf := xf) (gl := gl) (u := u) (h0 := h0) (n := n) (b := b) (dp := dp) hM' hJ hq)
theorem f_320 (hM' : mj_Rt mm_R Rf) {D : Nat} {x : Int32} (hd : 0 < dp ∧ dp < 2 ^ 31) (hJ : RD H g' J) (hq : Q (.inl none) (sh59, J, Lg, Rf, nc, ns)) : mj_rn X (mj_hd []) (mj_call X mj_P (mj_bi X) (D + 5)) mb_177 320 (z7 xf gl u h0 n x b dp) [] (sh59, J, Lg, Rf, nc, ns) Q := by
  unfold z7
  refine mj_blk rfl ?_
  simp +decide only [mjs_0, mjs_1, mjs_2, mjs_3, mjs_ble, true_and, Bool.false_eq_true, if_false, if_true, Nat.reduceAdd, Nat.reduceSub, Nat.reduceLeDiff, false_implies, true_implies, not_false_eq_true, not_true_eq_false, and_true]
  exact ⟨fun q => absurd q (nI_nle hd.1 hd.2), fun _ => mj_nv (f_325 (xf := xf) (gl := gl) (u := u) (h0 := h0) (n := n) (b := b) (dp := dp) (x := x) hM' hJ hq)⟩
theorem f_302 (hM' : mj_Rt mm_R Rf) {D : Nat} {x y : Int32} (hd : 0 < dp ∧ dp < 2 ^ 31) (hJ : RD H g' J) (hq : Q (.inl none) (sh59, J, Lg, Rf, nc, ns)) : mj_rn X (mj_hd []) (mj_call X mj_P (mj_bi X) (D + 5)) mb_177 302 (z9 xf gl u h0 n x b dp y) [] (sh59, J, Lg, Rf, nc, ns) Q := by
  unfold z9
  refine mj_blk rfl ?_
  simp +decide only [mjs_0, mjs_1, mjs_2, mjs_3, mjs_ble, true_and, Bool.false_eq_true, if_false, if_true, Nat.reduceAdd, Nat.reduceSub, Nat.reduceLeDiff, false_implies, true_implies, not_false_eq_true, not_true_eq_false, and_true]
  refine ⟨fun _ => mj_blk rfl ?_, fun _ => mj_blk rfl ?_⟩
  · simp +decide only [mjs_0, mjs_1, mjs_2, mjs_3, mjs_ble, true_and, Bool.false_eq_true, if_false, if_true, Nat.reduceAdd, Nat.reduceSub, Nat.reduceLeDiff, false_implies, true_implies, not_false_eq_true, not_true_eq_false, and_true]
    refine mj_blk rfl ?_
    simp +decide only [mjs_0, mjs_1, mjs_2, mjs_3, mjs_ble, true_and, Bool.false_eq_true, if_false, if_true, Nat.reduceAdd, Nat.reduceSub, Nat.reduceLeDiff, false_implies, true_implies, not_false_eq_true, not_true_eq_false, and_true]
    exact mj_nv (f_320 (xf := xf) (gl := gl) (u := u) (h0 := h0) (n := n) (b := b) (dp := dp) (x := x) hM' hd hJ hq)
  · simp +decide only [mjs_0, mjs_1, mjs_2, mjs_3, mjs_ble, true_and, Bool.false_eq_true, if_false, if_true, Nat.reduceAdd, Nat.reduceSub, Nat.reduceLeDiff, false_implies, true_implies, not_false_eq_true, not_true_eq_false, and_true]
    refine mj_blk rfl ?_
    simp +decide only [mjs_0, mjs_1, mjs_2, mjs_3, mjs_ble, true_and, Bool.false_eq_true, if_false, if_true, Nat.reduceAdd, Nat.reduceSub, Nat.reduceLeDiff, false_implies, true_implies, not_false_eq_true, not_true_eq_false, and_true]
    exact mj_nv (f_320 (xf := xf) (gl := gl) (u := u) (h0 := h0) (n := n) (b := b) (dp := dp) (x := 262144 + y) hM' hd hJ hq)
/-- the reference's two ways to get a token of the body -/
theorem rm_g1 (hM' : mj_Rt mm_R Rf) (hxf : xf = 0 ∨ xf = 1) (hd : 0 < dp ∧ dp < 2 ^ 31) {x : Int32} (hg : GT X Rf kr xf g x g') : RM X Rf mb_177 (kr + 5) 144 (z8 xf gl u h0 n b dp) [] g na 181 (z7 xf gl u h0 n x b dp) [] g' na := by
  have hm := mm_rf hM'
  intro H Lg d nc ns J Q hJ hA hq
  obtain ⟨D, hD, hDk⟩ : ∃ D, d + (kr + 5) = D + 5 ∧ kr ≤ D := ⟨d + kr, by omega, by omega⟩
  rw [hD]
  try rw [hD] at hq
  unfold z8
  unfold z7 at hq
  refine mj_blk rfl ?_
  simp +decide only [mjs_0, mjs_1, mjs_2, mjs_3, mjs_ble, true_and, Bool.false_eq_true, if_false, if_true, Nat.reduceAdd, Nat.reduceSub, Nat.reduceLeDiff, false_implies, true_implies, not_false_eq_true, not_true_eq_false, and_true, mm_sh, hm, mjs_up_at, mjs_up_c, mjs_up_f, hJ.1.2.2.2]
  refine mj_blk rfl ?_
  simp +decide only [mjs_0, mjs_1, mjs_2, mjs_3, mjs_ble, true_and, Bool.false_eq_true, if_false, if_true, Nat.reduceAdd, Nat.reduceSub, Nat.reduceLeDiff, false_implies, true_implies, not_false_eq_true, not_true_eq_false, and_true, mm_sh, hm, mjs_up_at, mjs_up_c, mjs_up_f]
  refine ⟨fun q => absurd q (nI_nle hd.1 hd.2), fun _ => ?_⟩
  rcases hxf with rfl | rfl
  · refine mj_blk rfl ?_
    simp +decide only [mjs_0, mjs_1, mjs_2, mjs_3, mjs_ble, true_and, Bool.false_eq_true, if_false, if_true, Nat.reduceAdd, Nat.reduceSub, Nat.reduceLeDiff, false_implies, true_implies, not_false_eq_true, not_true_eq_false, and_true, mm_sh, hm, mjs_up_at, mjs_up_c, mjs_up_f]
    refine mj_blk rfl ?_
    simp +decide only [mjs_0, mjs_1, mjs_2, mjs_3, mjs_ble, true_and, Bool.false_eq_true, if_false, if_true, Nat.reduceAdd, Nat.reduceSub, Nat.reduceLeDiff, false_implies, true_implies, not_false_eq_true, not_true_eq_false, and_true, mm_sh, hm, mjs_up_at, mjs_up_c, mjs_up_f]
    refine rx_at (hg.2 rfl) (by omega) hJ trivial (fun H1 J1 c1 c2 _ => ?_)
    simp +decide only [mjs_0, mjs_1, mjs_2, mjs_3, mjs_ble, true_and, Bool.false_eq_true, if_false, if_true, Nat.reduceAdd, Nat.reduceSub, Nat.reduceLeDiff, false_implies, true_implies, not_false_eq_true, not_true_eq_false, and_true, mm_sh, hm, mjs_up_at, mjs_up_c, mjs_up_f]
    refine mj_blk rfl ?_
    simp +decide only [mjs_0, mjs_1, mjs_2, mjs_3, mjs_ble, true_and, Bool.false_eq_true, if_false, if_true, Nat.reduceAdd, Nat.reduceSub, Nat.reduceLeDiff, false_implies, true_implies, not_false_eq_true, not_true_eq_false, and_true, mm_sh, hm, mjs_up_at, mjs_up_c, mjs_up_f, c2.1.2.2.2]
    exact mj_nv (hq H1 J1 c1 c2 trivial)
  · refine mj_blk rfl ?_
    simp +decide only [mjs_0, mjs_1, mjs_2, mjs_3, mjs_ble, true_and, Bool.false_eq_true, if_false, if_true, Nat.reduceAdd, Nat.reduceSub, Nat.reduceLeDiff, false_implies, true_implies, not_false_eq_true, not_true_eq_false, and_true, mm_sh, hm, mjs_up_at, mjs_up_c, mjs_up_f]
    refine mj_blk rfl ?_
    simp +decide only [mjs_0, mjs_1, mjs_2, mjs_3, mjs_ble, true_and, Bool.false_eq_true, if_false, if_true, Nat.reduceAdd, Nat.reduceSub, Nat.reduceLeDiff, false_implies, true_implies, not_false_eq_true, not_true_eq_false, and_true, mm_sh, hm, mjs_up_at, mjs_up_c, mjs_up_f]
    refine rx_at (hg.1 rfl) (by omega) hJ trivial (fun H1 J1 c1 c2 _ => ?_)
    simp +decide only [mjs_0, mjs_1, mjs_2, mjs_3, mjs_ble, true_and, Bool.false_eq_true, if_false, if_true, Nat.reduceAdd, Nat.reduceSub, Nat.reduceLeDiff, false_implies, true_implies, not_false_eq_true, not_true_eq_false, and_true, mm_sh, hm, mjs_up_at, mjs_up_c, mjs_up_f]
    refine mj_blk rfl ?_
    simp +decide only [mjs_0, mjs_1, mjs_2, mjs_3, mjs_ble, true_and, Bool.false_eq_true, if_false, if_true, Nat.reduceAdd, Nat.reduceSub, Nat.reduceLeDiff, false_implies, true_implies, not_false_eq_true, not_true_eq_false, and_true, mm_sh, hm, mjs_up_at, mjs_up_c, mjs_up_f, c2.1.2.2.2]
    exact mj_nv (hq H1 J1 c1 c2 trivial)
theorem rf_g1 (hM' : mj_Rt mm_R Rf) (hxf : xf = 0 ∨ xf = 1) (hd : 0 < dp ∧ dp < 2 ^ 31) (hg : GF X Rf kr xf g g') : RMf X Rf mb_177 (kr + 5) 144 (z8 xf gl u h0 n b dp) [] g na none g' := by
  have hm := mm_rf hM'
  intro H Lg d nc ns J Q hJ hA hq
  obtain ⟨D, hD, hDk⟩ : ∃ D, d + (kr + 5) = D + 5 ∧ kr ≤ D := ⟨d + kr, by omega, by omega⟩
  rw [hD]
  try rw [hD] at hq
  unfold z8
  refine mj_blk rfl ?_
  simp +decide only [mjs_0, mjs_1, mjs_2, mjs_3, mjs_ble, true_and, Bool.false_eq_true, if_false, if_true, Nat.reduceAdd, Nat.reduceSub, Nat.reduceLeDiff, false_implies, true_implies, not_false_eq_true, not_true_eq_false, and_true, mm_sh, hm, mjs_up_at, mjs_up_c, mjs_up_f, hJ.1.2.2.2]
  refine mj_blk rfl ?_
  simp +decide only [mjs_0, mjs_1, mjs_2, mjs_3, mjs_ble, true_and, Bool.false_eq_true, if_false, if_true, Nat.reduceAdd, Nat.reduceSub, Nat.reduceLeDiff, false_implies, true_implies, not_false_eq_true, not_true_eq_false, and_true, mm_sh, hm, mjs_up_at, mjs_up_c, mjs_up_f]
  refine ⟨fun q => absurd q (nI_nle hd.1 hd.2), fun _ => ?_⟩
  rcases hxf with rfl | rfl
  · refine mj_blk rfl ?_
    simp +decide only [mjs_0, mjs_1, mjs_2, mjs_3, mjs_ble, true_and, Bool.false_eq_true, if_false, if_true, Nat.reduceAdd, Nat.reduceSub, Nat.reduceLeDiff, false_implies, true_implies, not_false_eq_true, not_true_eq_false, and_true, mm_sh, hm, mjs_up_at, mjs_up_c, mjs_up_f]
    refine mj_blk rfl ?_
    simp +decide only [mjs_0, mjs_1, mjs_2, mjs_3, mjs_ble, true_and, Bool.false_eq_true, if_false, if_true, Nat.reduceAdd, Nat.reduceSub, Nat.reduceLeDiff, false_implies, true_implies, not_false_eq_true, not_true_eq_false, and_true, mm_sh, hm, mjs_up_at, mjs_up_c, mjs_up_f]
    refine ry_at (hg.2 rfl) (by omega) hJ trivial (fun J1 c2 => ?_)
    simp +decide only [mjs_0, mjs_1, mjs_2, mjs_3, mjs_ble, true_and, Bool.false_eq_true, if_false, if_true, Nat.reduceAdd, Nat.reduceSub, Nat.reduceLeDiff, false_implies, true_implies, not_false_eq_true, not_true_eq_false, and_true, mm_sh, hm, mjs_up_at, mjs_up_c, mjs_up_f]
    refine mj_blk rfl ?_
    simp +decide only [mjs_0, mjs_1, mjs_2, mjs_3, mjs_ble, true_and, Bool.false_eq_true, if_false, if_true, Nat.reduceAdd, Nat.reduceSub, Nat.reduceLeDiff, false_implies, true_implies, not_false_eq_true, not_true_eq_false, and_true, mm_sh, hm, mjs_up_at, mjs_up_c, mjs_up_f]
    refine ⟨fun q => absurd q (rd_nle c2), fun _ => mj_blk rfl ?_⟩
    simp +decide only [mjs_0, mjs_1, mjs_2, mjs_3, mjs_ble, true_and, Bool.false_eq_true, if_false, if_true, Nat.reduceAdd, Nat.reduceSub, Nat.reduceLeDiff, false_implies, true_implies, not_false_eq_true, not_true_eq_false, and_true, mm_sh, hm, mjs_up_at, mjs_up_c, mjs_up_f]
    exact hq J1 c2
  · refine mj_blk rfl ?_
    simp +decide only [mjs_0, mjs_1, mjs_2, mjs_3, mjs_ble, true_and, Bool.false_eq_true, if_false, if_true, Nat.reduceAdd, Nat.reduceSub, Nat.reduceLeDiff, false_implies, true_implies, not_false_eq_true, not_true_eq_false, and_true, mm_sh, hm, mjs_up_at, mjs_up_c, mjs_up_f]
    refine mj_blk rfl ?_
    simp +decide only [mjs_0, mjs_1, mjs_2, mjs_3, mjs_ble, true_and, Bool.false_eq_true, if_false, if_true, Nat.reduceAdd, Nat.reduceSub, Nat.reduceLeDiff, false_implies, true_implies, not_false_eq_true, not_true_eq_false, and_true, mm_sh, hm, mjs_up_at, mjs_up_c, mjs_up_f]
    refine ry_at (hg.1 rfl) (by omega) hJ trivial (fun J1 c2 => ?_)
    simp +decide only [mjs_0, mjs_1, mjs_2, mjs_3, mjs_ble, true_and, Bool.false_eq_true, if_false, if_true, Nat.reduceAdd, Nat.reduceSub, Nat.reduceLeDiff, false_implies, true_implies, not_false_eq_true, not_true_eq_false, and_true, mm_sh, hm, mjs_up_at, mjs_up_c, mjs_up_f]
    refine mj_blk rfl ?_
    simp +decide only [mjs_0, mjs_1, mjs_2, mjs_3, mjs_ble, true_and, Bool.false_eq_true, if_false, if_true, Nat.reduceAdd, Nat.reduceSub, Nat.reduceLeDiff, false_implies, true_implies, not_false_eq_true, not_true_eq_false, and_true, mm_sh, hm, mjs_up_at, mjs_up_c, mjs_up_f]
    refine ⟨fun q => absurd q (rd_nle c2), fun _ => mj_blk rfl ?_⟩
    simp +decide only [mjs_0, mjs_1, mjs_2, mjs_3, mjs_ble, true_and, Bool.false_eq_true, if_false, if_true, Nat.reduceAdd, Nat.reduceSub, Nat.reduceLeDiff, false_implies, true_implies, not_false_eq_true, not_true_eq_false, and_true, mm_sh, hm, mjs_up_at, mjs_up_c, mjs_up_f]
    exact hq J1 c2
theorem rm_g2 (hM' : mj_Rt mm_R Rf) (hxf : xf = 0 ∨ xf = 1) {x : Int32} (hg : GT X Rf kr xf g x g') : RM X Rf mb_177 (kr + 5) 227 (z8 xf gl u h0 n b dp) [] g na 242 (z8 xf gl u h0 n b dp) [.int x] g' na := by
  have hm := mm_rf hM'
  intro H Lg d nc ns J Q hJ hA hq
  obtain ⟨D, hD, hDk⟩ : ∃ D, d + (kr + 5) = D + 5 ∧ kr ≤ D := ⟨d + kr, by omega, by omega⟩
  rw [hD]
  try rw [hD] at hq
  unfold z8 at hq ⊢
  rcases hxf with rfl | rfl
  · refine mj_blk rfl ?_
    simp +decide only [mjs_0, mjs_1, mjs_2, mjs_3, mjs_ble, true_and, Bool.false_eq_true, if_false, if_true, Nat.reduceAdd, Nat.reduceSub, Nat.reduceLeDiff, false_implies, true_implies, not_false_eq_true, not_true_eq_false, and_true, mm_sh, hm, mjs_up_at, mjs_up_c, mjs_up_f]
    refine mj_blk rfl ?_
    simp +decide only [mjs_0, mjs_1, mjs_2, mjs_3, mjs_ble, true_and, Bool.false_eq_true, if_false, if_true, Nat.reduceAdd, Nat.reduceSub, Nat.reduceLeDiff, false_implies, true_implies, not_false_eq_true, not_true_eq_false, and_true, mm_sh, hm, mjs_up_at, mjs_up_c, mjs_up_f]
    refine rx_at (hg.2 rfl) (by omega) hJ trivial (fun H1 J1 c1 c2 _ => ?_)
    simp +decide only [mjs_0, mjs_1, mjs_2, mjs_3, mjs_ble, true_and, Bool.false_eq_true, if_false, if_true, Nat.reduceAdd, Nat.reduceSub, Nat.reduceLeDiff, false_implies, true_implies, not_false_eq_true, not_true_eq_false, and_true, mm_sh, hm, mjs_up_at, mjs_up_c, mjs_up_f]
    exact mj_nv (hq H1 J1 c1 c2 trivial)
  · refine mj_blk rfl ?_
    simp +decide only [mjs_0, mjs_1, mjs_2, mjs_3, mjs_ble, true_and, Bool.false_eq_true, if_false, if_true, Nat.reduceAdd, Nat.reduceSub, Nat.reduceLeDiff, false_implies, true_implies, not_false_eq_true, not_true_eq_false, and_true, mm_sh, hm, mjs_up_at, mjs_up_c, mjs_up_f]
    refine mj_blk rfl ?_
    simp +decide only [mjs_0, mjs_1, mjs_2, mjs_3, mjs_ble, true_and, Bool.false_eq_true, if_false, if_true, Nat.reduceAdd, Nat.reduceSub, Nat.reduceLeDiff, false_implies, true_implies, not_false_eq_true, not_true_eq_false, and_true, mm_sh, hm, mjs_up_at, mjs_up_c, mjs_up_f]
    refine rx_at (hg.1 rfl) (by omega) hJ trivial (fun H1 J1 c1 c2 _ => ?_)
    simp +decide only [mjs_0, mjs_1, mjs_2, mjs_3, mjs_ble, true_and, Bool.false_eq_true, if_false, if_true, Nat.reduceAdd, Nat.reduceSub, Nat.reduceLeDiff, false_implies, true_implies, not_false_eq_true, not_true_eq_false, and_true, mm_sh, hm, mjs_up_at, mjs_up_c, mjs_up_f]
    exact mj_nv (hq H1 J1 c1 c2 trivial)
theorem f_242 (hM' : mj_Rt mm_R Rf) {D : Nat} (hd : 0 < dp ∧ dp < 2 ^ 31) (hJ : RD H g' J) (hq : Q (.inl none) (sh59, J, Lg, Rf, nc, ns)) : mj_rn X (mj_hd []) (mj_call X mj_P (mj_bi X) (D + 5)) mb_177 242 (z8 xf gl u h0 n b dp) [.int (-1)] (sh59, J, Lg, Rf, nc, ns) Q := by
  have hm := mm_rf hM'
  unfold z8
  refine mj_blk rfl ?_
  simp +decide only [mjs_0, mjs_1, mjs_2, mjs_3, mjs_ble, true_and, Bool.false_eq_true, if_false, if_true, Nat.reduceAdd, Nat.reduceSub, Nat.reduceLeDiff, false_implies, true_implies, not_false_eq_true, not_true_eq_false, and_true, mm_sh, hm, mjs_up_at, mjs_up_c, mjs_up_f]
  refine r_157 (fun q => absurd q (by decide)) (fun _ => ?_)
  simp +decide only [mjs_0, mjs_1, mjs_2, mjs_3, mjs_ble, true_and, Bool.false_eq_true, if_false, if_true, Nat.reduceAdd, Nat.reduceSub, Nat.reduceLeDiff, false_implies, true_implies, not_false_eq_true, not_true_eq_false, and_true, mm_sh, hm, mjs_up_at, mjs_up_c, mjs_up_f]
  refine mj_blk rfl ?_
  simp +decide only [mjs_0, mjs_1, mjs_2, mjs_3, mjs_ble, true_and, Bool.false_eq_true, if_false, if_true, Nat.reduceAdd, Nat.reduceSub, Nat.reduceLeDiff, false_implies, true_implies, not_false_eq_true, not_true_eq_false, and_true, mm_sh, hm, mjs_up_at, mjs_up_c, mjs_up_f]
  refine mj_blk rfl ?_
  simp +decide only [mjs_0, mjs_1, mjs_2, mjs_3, mjs_ble, true_and, Bool.false_eq_true, if_false, if_true, Nat.reduceAdd, Nat.reduceSub, Nat.reduceLeDiff, false_implies, true_implies, not_false_eq_true, not_true_eq_false, and_true, mm_sh, hm, mjs_up_at, mjs_up_c, mjs_up_f]
  exact ⟨fun _ => mj_nv (f_302 (xf := xf) (gl := gl) (u := u) (h0 := h0) (n := n) (b := b) (dp := dp) (x := -1) (y := 0) hM' hd hJ hq), fun q => absurd (rd_ne hJ) q⟩
theorem rf_g2 (hM' : mj_Rt mm_R Rf) (hxf : xf = 0 ∨ xf = 1) (hd : 0 < dp ∧ dp < 2 ^ 31) (hg : GF X Rf kr xf g g') : RMf X Rf mb_177 (kr + 5) 227 (z8 xf gl u h0 n b dp) [] g na none g' := by
  have hm := mm_rf hM'
  intro H Lg d nc ns J Q hJ hA hq
  obtain ⟨D, hD, hDk⟩ : ∃ D, d + (kr + 5) = D + 5 ∧ kr ≤ D := ⟨d + kr, by omega, by omega⟩
  rw [hD]
  try rw [hD] at hq
  unfold z8
  rcases hxf with rfl | rfl
  · refine mj_blk rfl ?_
    simp +decide only [mjs_0, mjs_1, mjs_2, mjs_3, mjs_ble, true_and, Bool.false_eq_true, if_false, if_true, Nat.reduceAdd, Nat.reduceSub, Nat.reduceLeDiff, false_implies, true_implies, not_false_eq_true, not_true_eq_false, and_true, mm_sh, hm, mjs_up_at, mjs_up_c, mjs_up_f]
    refine mj_blk rfl ?_
    simp +decide only [mjs_0, mjs_1, mjs_2, mjs_3, mjs_ble, true_and, Bool.false_eq_true, if_false, if_true, Nat.reduceAdd, Nat.reduceSub, Nat.reduceLeDiff, false_implies, true_implies, not_false_eq_true, not_true_eq_false, and_true, mm_sh, hm, mjs_up_at, mjs_up_c, mjs_up_f]
    refine ry_at (hg.2 rfl) (by omega) hJ trivial (fun J1 c2 => ?_)
    simp +decide only [mjs_0, mjs_1, mjs_2, mjs_3, mjs_ble, true_and, Bool.false_eq_true, if_false, if_true, Nat.reduceAdd, Nat.reduceSub, Nat.reduceLeDiff, false_implies, true_implies, not_false_eq_true, not_true_eq_false, and_true, mm_sh, hm, mjs_up_at, mjs_up_c, mjs_up_f]
    exact mj_nv (f_242 (xf := 0) (gl := gl) (u := u) (h0 := h0) (n := n) (b := b) (dp := dp) hM' hd c2 (hq J1 c2))
  · refine mj_blk rfl ?_
    simp +decide only [mjs_0, mjs_1, mjs_2, mjs_3, mjs_ble, true_and, Bool.false_eq_true, if_false, if_true, Nat.reduceAdd, Nat.reduceSub, Nat.reduceLeDiff, false_implies, true_implies, not_false_eq_true, not_true_eq_false, and_true, mm_sh, hm, mjs_up_at, mjs_up_c, mjs_up_f]
    refine mj_blk rfl ?_
    simp +decide only [mjs_0, mjs_1, mjs_2, mjs_3, mjs_ble, true_and, Bool.false_eq_true, if_false, if_true, Nat.reduceAdd, Nat.reduceSub, Nat.reduceLeDiff, false_implies, true_implies, not_false_eq_true, not_true_eq_false, and_true, mm_sh, hm, mjs_up_at, mjs_up_c, mjs_up_f]
    refine ry_at (hg.1 rfl) (by omega) hJ trivial (fun J1 c2 => ?_)
    simp +decide only [mjs_0, mjs_1, mjs_2, mjs_3, mjs_ble, true_and, Bool.false_eq_true, if_false, if_true, Nat.reduceAdd, Nat.reduceSub, Nat.reduceLeDiff, false_implies, true_implies, not_false_eq_true, not_true_eq_false, and_true, mm_sh, hm, mjs_up_at, mjs_up_c, mjs_up_f]
    exact mj_nv (f_242 (xf := 1) (gl := gl) (u := u) (h0 := h0) (n := n) (b := b) (dp := dp) hM' hd c2 (hq J1 c2))
end MJBD
