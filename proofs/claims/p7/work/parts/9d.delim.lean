/-! AN ARGUMENT WITH DELIMITERS: tests of both -/
def pl (t : Nat) : Nat := if t / 1048576 % 2 = 1 then t - 1048576 else t
theorem rb_inj {k a b : Nat} (hk : k ≤ 1036) (ha : tb k a) (hb : tb k b) (h : rb a = rb b) : a = b := by
  unfold tb at ha hb
  have pa : 65536 ≤ a → rp (a - 65536) < 1036 := fun h1 => rp_lt (by omega) (by decide)
  have pb : 65536 ≤ b → rp (b - 65536) < 1036 := fun h1 => rp_lt (by omega) (by decide)
  have inj : rp (a - 65536) = rp (b - 65536) → a - 65536 = b - 65536 := rp_inj
  unfold rb at h
  repeat' split at h
  all_goals omega
theorem rt_pl {k t : Nat} (hk : k ≤ 1036) (h3 : 36 ≤ k) (ht : tv k t) : mr_ba (rt t) = rb (pl t) ∧ tb k (pl t) := by
  unfold mr_ba rt pl
  rcases ht with ht | ht
  · have h2 := tb_lt hk ht
    have := (rb_lt hk h3 ht).1
    rw [if_neg (show ¬ (1048576 ≤ t ∧ t < 2097152) by omega), if_neg (show ¬ t / 1048576 % 2 = 1 by omega), if_neg (by omega)]
    exact ⟨rfl, ht⟩
  · have h2 := tb_lt hk ht.2.2
    rw [if_pos (show 1048576 ≤ t ∧ t < 2097152 by omega), if_pos (show t / 1048576 % 2 = 1 by omega), if_pos (by omega)]
    exact ⟨by omega, ht.2.2⟩
theorem rt_tb {k t : Nat} (hk : k ≤ 1036) (ht : tb k t) : rt t = rb t := by
  have h2 := tb_lt hk ht
  unfold rt
  rw [if_neg (by omega)]
theorem pl_tb {k t : Nat} (hk : k ≤ 1036) (ht : tb k t) : pl t = t := by
  have h2 := tb_lt hk ht
  unfold pl
  rw [if_neg (by omega)]
/-- the depth in braces behind i tokens -/
def dq (f : Nat → Nat) : Nat → Nat
  | 0 => 0
  | i + 1 => if cg (f i) = 1 then dq f i + 1 else if cg (f i) = 2 then dq f i - 1 else dq f i
theorem dq_eq {f g : Nat → Nat} : ∀ {c : Nat}, (∀ i, i < c → f i = g i) → dq f c = dq g c
  | 0, _ => rfl
  | c + 1, h => by
    show (if cg (f c) = 1 then dq f c + 1 else if cg (f c) = 2 then dq f c - 1 else dq f c) = (if cg (g c) = 1 then dq g c + 1 else if cg (g c) = 2 then dq g c - 1 else dq g c)
    rw [h c (Nat.lt_succ_self c), dq_eq (c := c) (fun i hi => h i (by omega))]
theorem dq_le {f : Nat → Nat} : ∀ {c : Nat}, dq f c ≤ c
  | 0 => Nat.le_refl _
  | c + 1 => by
    have := dq_le (f := f) (c := c)
    show (if cg (f c) = 1 then dq f c + 1 else if cg (f c) = 2 then dq f c - 1 else dq f c) ≤ _
    split
    · omega
    · split <;> omega
theorem dq_ud {f : Nat → Nat} {len t c : Nat} (h : c ≤ len) : dq (ud f len t) c = dq f c := dq_eq (fun i hi => ud_ne (by omega))
/-- the last tokens are the delimiters -/
def EW (f : Nat → Nat) (len many first : Nat) (pool : Nat → Nat) : Prop := many ≤ len ∧ ∀ i, i < many → pl (f (len - many + i)) = pool (first + i)
theorem ew_dq {f : Nat → Nat} {len many first : Nat} {pool : Nat → Nat} (h : EW f len many first pool) (hd : ∀ i, i < many → ¬ (256 ≤ pool (first + i) ∧ pool (first + i) < 768)) : dq f (len - many) = dq f len := by
  have step : ∀ j, j ≤ many → dq f (len - many + j) = dq f (len - many) := by
    intro j
    induction j with
    | zero => intro _; rfl
    | succ j ih =>
      intro hj
      have h1 := h.2 j (by omega)
      have h2 := hd j (by omega)
      have hc : cg (f (len - many + j)) ≠ 1 ∧ cg (f (len - many + j)) ≠ 2 := by
        unfold pl at h1
        unfold cg
        split at h1
        · split
          · omega
          · omega
        · rw [h1]
          split
          · omega
          · omega
      show (if cg (f (len - many + j)) = 1 then dq f (len - many + j) + 1 else if cg (f (len - many + j)) = 2 then dq f (len - many + j) - 1 else dq f (len - many + j)) = _
      rw [if_neg hc.1, if_neg hc.2]
      exact ih (by omega)
  have := step many (Nat.le_refl _)
  rw [Nat.sub_add_cancel h.1] at this
  exact this.symm
/-- where the first brace that was opened is closed, as the class keeps it -/
def clP (f : Nat → Nat) (bg len : Nat) (x : Int32) : Prop := (x = -1 ∧ ∀ c, 1 ≤ c → c ≤ len → cg (f (c - 1)) = 2 → dq f c ≠ 0) ∨ ∃ c, 1 ≤ c ∧ c ≤ len ∧ x = nI (bg + c) ∧ cg (f (c - 1)) = 2 ∧ dq f c = 0 ∧ ∀ c', 1 ≤ c' → c' < c → cg (f (c' - 1)) = 2 → dq f c' ≠ 0
/-- all in one pair of braces -/
def brd (f : Nat → Nat) (n : Nat) : Prop := 2 ≤ n ∧ cg (f 0) = 1 ∧ ∀ i, i + 1 < n → dq f (i + 1) ≠ 0
theorem cl_nz {f : Nat → Nat} {m : Nat} (h0 : cg (f 0) = 1) (h : ∀ c, 1 ≤ c → c < m → cg (f (c - 1)) = 2 → dq f c ≠ 0) : ∀ c, c + 1 < m → dq f (c + 1) ≠ 0 := by
  intro c
  induction c with
  | zero =>
    intro _
    show (if cg (f 0) = 1 then dq f 0 + 1 else if cg (f 0) = 2 then dq f 0 - 1 else dq f 0) ≠ 0
    rw [if_pos h0]
    exact Nat.succ_ne_zero _
  | succ c ih =>
    intro hc hz
    have ih' := ih (by omega)
    have h2 := h (c + 1 + 1) (by omega) hc
    rw [Nat.add_sub_cancel] at h2
    have hz' : (if cg (f (c + 1)) = 1 then dq f (c + 1) + 1 else if cg (f (c + 1)) = 2 then dq f (c + 1) - 1 else dq f (c + 1)) = 0 := hz
    by_cases e1 : cg (f (c + 1)) = 1
    · rw [if_pos e1] at hz'
      omega
    · rw [if_neg e1] at hz'
      by_cases e2 : cg (f (c + 1)) = 2
      · exact h2 e2 hz
      · rw [if_neg e2] at hz'
        exact ih' hz'
theorem cl_brd {f : Nat → Nat} {bg len n : Nat} {x : Int32} (hl : bg + len < 2 ^ 31) (hn : n ≤ len) (h : clP f bg len x) (hz : dq f n = 0) : (x = nI (bg + n) ∧ cg (f 0) = 1) ↔ brd f n := by
  constructor
  · rintro ⟨hx, h0⟩
    rcases h with ⟨h1, _⟩ | ⟨c, c1, c2, c3, c4, c5, c6⟩
    · exact absurd (hx.symm.trans h1) (fun e => absurd (nI_pos (n := bg + n) (by omega)) (by rw [e]; decide))
    · have : bg + n = bg + c := (nI_eq (by omega) (by omega)).mp (hx.symm.trans c3)
      have hc : c = n := by omega
      subst hc
      refine ⟨?_, h0, fun i hi => cl_nz h0 c6 i hi⟩
      by_cases e : c = 1
      · subst e
        rw [show 1 - 1 = 0 from rfl, h0] at c4
        exact absurd c4 (by decide)
      · omega
  · rintro ⟨h2, h0, hnz⟩
    obtain ⟨m, rfl⟩ : ∃ m, n = m + 1 + 1 := ⟨n - 2, by omega⟩
    have hm := hnz m (by omega)
    have hc2 : cg (f (m + 1)) = 2 := by
      have hz' : (if cg (f (m + 1)) = 1 then dq f (m + 1) + 1 else if cg (f (m + 1)) = 2 then dq f (m + 1) - 1 else dq f (m + 1)) = 0 := hz
      by_cases e1 : cg (f (m + 1)) = 1
      · rw [if_pos e1] at hz'
        omega
      · rw [if_neg e1] at hz'
        by_cases e2 : cg (f (m + 1)) = 2
        · exact e2
        · rw [if_neg e2] at hz'
          exact absurd hz' hm
    refine ⟨?_, h0⟩
    rcases h with ⟨_, h1⟩ | ⟨c, c1, c2, c3, c4, c5, c6⟩
    · exact absurd hz (h1 (m + 1 + 1) (by omega) hn hc2)
    · have hge : m + 1 + 1 ≤ c := by
        by_cases e : c < m + 1 + 1
        · obtain ⟨c', rfl⟩ : ∃ c', c = c' + 1 := ⟨c - 1, by omega⟩
          exact absurd c5 (hnz c' (by omega))
        · omega
      have hle : c ≤ m + 1 + 1 := by
        by_cases e : m + 1 + 1 < c
        · exact absurd hz (c6 (m + 1 + 1) (by omega) e hc2)
        · omega
      rw [c3, Nat.le_antisymm hle hge]
theorem cl_step {f : Nat → Nat} {bg len t : Nat} {x : Int32} (hl : bg + len + 1 < 2 ^ 31) (h : clP f bg len x) : clP (ud f len t) bg (len + 1) (if dq (ud f len t) (len + 1) = 0 ∧ cg t = 2 ∧ x < 0 then nI (bg + len + 1) else x) := by
  have eq : ∀ c, 1 ≤ c → c ≤ len → cg (ud f len t (c - 1)) = cg (f (c - 1)) ∧ dq (ud f len t) c = dq f c := fun c h1 h2 => ⟨by rw [ud_ne (by omega)], dq_ud h2⟩
  rcases h with ⟨h1, h2⟩ | ⟨c, c1, c2, c3, c4, c5, c6⟩
  · by_cases e : dq (ud f len t) (len + 1) = 0 ∧ cg t = 2
    · rw [if_pos ⟨e.1, e.2, by rw [h1]; decide⟩]
      refine Or.inr ⟨len + 1, by omega, Nat.le_refl _, by rw [Nat.add_assoc], ?_, e.1, fun c' d1 d2 d3 => ?_⟩
      · rw [Nat.add_sub_cancel, ud_at]
        exact e.2
      · rw [(eq c' d1 (by omega)).1] at d3
        rw [(eq c' d1 (by omega)).2]
        exact h2 c' d1 (by omega) d3
    · rw [if_neg (fun hh => e ⟨hh.1, hh.2.1⟩)]
      refine Or.inl ⟨h1, fun c d1 d2 d3 => ?_⟩
      by_cases ec : c = len + 1
      · subst ec
        rw [Nat.add_sub_cancel, ud_at] at d3
        exact fun hz => e ⟨hz, d3⟩
      · rw [(eq c d1 (by omega)).1] at d3
        rw [(eq c d1 (by omega)).2]
        exact h2 c d1 (by omega) d3
  · rw [if_neg (fun hh => absurd hh.2.2 (by rw [c3]; exact nI_pos (by omega)))]
    refine Or.inr ⟨c, c1, by omega, c3, by rw [(eq c c1 c2).1]; exact c4, by rw [(eq c c1 c2).2]; exact c5, fun c' d1 d2 d3 => ?_⟩
    rw [(eq c' d1 (by omega)).1] at d3
    rw [(eq c' d1 (by omega)).2]
    exact c6 c' d1 d2 d3
section MJDL
variable {X : mj_X} {d nc ns : Nat} {Q : mj_Q} {I I' J J' H : Nat → Nat → Int32} {Lg : Nat → Nat → Int64} {Rf : Nat → Nat → Option Nat} {fb : Nat → Nat → Int32} {vb : Nat → Int32} {K : Nat × Nat × Nat} {P : List Nat} {E : sgE} {N : sgN} {S : sgS} {M : sgM} {C : sgC} {O : sgO} {L L' : sgL} {t n bg fi : Nat} {A : Nat → (Nat → Nat) × Nat} {f : Nat → Nat} {len many first : Nat}
theorem rq_141 {S' : mj_S} {k p : Nat} (hk : k ≤ 1036) (h3 : 36 ≤ k) (ht : tv k t) (hp : tb k p) (hQ1 : pl t = p → Q (.inl (some (.int 1))) S') (hQ0 : pl t ≠ p → Q (.inl (some (.int 0))) S') : mj_call X mj_P (mj_bi X) (d + 2) 141 [.ref 36, .int (nI (rt t)), .int (nI (rt p))] S' Q := by
  obtain ⟨b1, b2⟩ := rt_pl hk h3 ht
  obtain ⟨b3, b4⟩ := rt_pl hk h3 (Or.inl hp)
  rw [pl_tb hk hp] at b3
  have l1 := rt_lt hk h3 ht
  have l2 := rt_lt hk h3 (Or.inl hp)
  have l3 := (rb_lt hk h3 b2).1
  have l4 := (rb_lt hk h3 hp).1
  refine mj_enter (z := (3, [], mb_141)) (by decide) rfl rfl ?_
  refine mj_blk rfl ?_
  simp +decide only [mjs_0, mjs_1, mjs_2, mjs_3, mjs_ble, true_and, Bool.false_eq_true, if_false, if_true, Nat.reduceAdd, Nat.reduceSub, Nat.reduceLeDiff, false_implies, true_implies, not_false_eq_true, not_true_eq_false, and_true]
  refine r_123 (by omega) ?_
  simp +decide only [mjs_0, mjs_1, mjs_2, mjs_3, mjs_ble, true_and, Bool.false_eq_true, if_false, if_true, Nat.reduceAdd, Nat.reduceSub, Nat.reduceLeDiff, false_implies, true_implies, not_false_eq_true, not_true_eq_false, and_true]
  refine r_123 (by omega) ?_
  simp +decide only [mjs_0, mjs_1, mjs_2, mjs_3, mjs_ble, true_and, Bool.false_eq_true, if_false, if_true, Nat.reduceAdd, Nat.reduceSub, Nat.reduceLeDiff, false_implies, true_implies, not_false_eq_true, not_true_eq_false, and_true, b1, b3]
  by_cases e : pl t = p
  · refine ⟨fun q => absurd (by rw [e]) q, fun _ => mj_blk rfl ?_⟩
    simp +decide only [mjs_0, mjs_1, mjs_2, mjs_3, mjs_ble, true_and, Bool.false_eq_true, if_false, if_true, Nat.reduceAdd, Nat.reduceSub, Nat.reduceLeDiff, false_implies, true_implies, not_false_eq_true, not_true_eq_false, and_true]
    refine mj_blk rfl ?_
    simp +decide only [mjs_0, mjs_1, mjs_2, mjs_3, mjs_ble, true_and, Bool.false_eq_true, if_false, if_true, Nat.reduceAdd, Nat.reduceSub, Nat.reduceLeDiff, false_implies, true_implies, not_false_eq_true, not_true_eq_false, and_true]
    exact hQ1 e
  · have hne : ¬ nI (rb (pl t)) = nI (rb p) := fun q => e (rb_inj hk b2 hp ((nI_eq (by omega) (by omega)).mp q))
    refine ⟨fun _ => mj_blk rfl ?_, fun q => absurd hne q⟩
    simp +decide only [mjs_0, mjs_1, mjs_2, mjs_3, mjs_ble, true_and, Bool.false_eq_true, if_false, if_true, Nat.reduceAdd, Nat.reduceSub, Nat.reduceLeDiff, false_implies, true_implies, not_false_eq_true, not_true_eq_false, and_true]
    refine mj_blk rfl ?_
    simp +decide only [mjs_0, mjs_1, mjs_2, mjs_3, mjs_ble, true_and, Bool.false_eq_true, if_false, if_true, Nat.reduceAdd, Nat.reduceSub, Nat.reduceLeDiff, false_implies, true_implies, not_false_eq_true, not_true_eq_false, and_true]
    exact hQ0 e
theorem cq_13 (hR : mj_Rt mp_R Rf) (h : RC fb vb (K, P, E, N, S, M, C, O, L) I) (h3 : fb 30 3 = nI (bg + len)) (hf : ∀ i, i < len → fb 31 (bg + i) = nI (f i)) (ht : ∀ i, i < len → f i < 2 ^ 31) (hb : bg + len ≤ 14101) (hu : first + many ≤ M.2.2.2.1) (hu2 : M.2.2.2.1 ≤ 10000) (hp : ∀ j, j < M.2.2.2.1 → M.1 j < 2 ^ 31) (hQ1 : EW f len many first M.1 → Q (.inl (some (.int 1))) (sh59, I, Lg, Rf, nc, ns)) (hQ0 : ¬ EW f len many first M.1 → Q (.inl (some (.int 0))) (sh59, I, Lg, Rf, nc, ns)) : mj_call X mj_P (mj_bi X) (d + 2) 13 [.ref 30, .int (nI bg), .int (nI first), .int (nI (first + many))] (sh59, I, Lg, Rf, nc, ns) Q := by
  have hr := mc_rf hR
  have hM := (rc_d h).2.2.2.2.2.1
  have i3 : I 30 3 = nI (bg + len) := ((rc_fb h 3).1).trans h3
  have e1 : nI (first + many) - nI first = nI many := by
    rw [pk_sub (by omega)]
    congr 1
    omega
  have m1 : ∀ x : Int32, x - 1 = x + (-1) := fun x => Int32.sub_eq_add_neg x 1
  refine mj_enter (z := (6, [], mb_13)) (by decide) rfl rfl ?_
  refine mj_blk rfl ?_
  simp +decide only [mjs_0, mjs_1, mjs_2, mjs_3, mjs_ble, true_and, Bool.false_eq_true, if_false, if_true, Nat.reduceAdd, Nat.reduceSub, Nat.reduceLeDiff, false_implies, true_implies, not_false_eq_true, not_true_eq_false, and_true, mc_sh, hr, mjs_up_at, mjs_up_c, mjs_up_f, i3, e1]
  by_cases hm : many ≤ len
  · have e2 : nI (bg + len) - nI many = nI (bg + (len - many)) := by
      rw [pk_sub (by omega)]
      congr 1
      omega
    rw [e2]
    have lp : ∀ j, j ≤ many → (∀ i, j ≤ i → i < many → pl (f (len - many + i)) = M.1 (first + i)) → mj_rn X (mj_hd []) (mj_call X mj_P (mj_bi X) (d + 1)) mb_13 25 [some (.ref 30), none, some (.int (nI first)), none, some (.int (nI (bg + (len - many)))), some (.int (nI j + (-1)))] [] (sh59, I, Lg, Rf, nc, ns) Q := by
      intro j
      induction j with
      | zero =>
        intro _ hh
        refine mj_blk rfl ?_
        simp +decide only [mjs_0, mjs_1, mjs_2, mjs_3, mjs_ble, true_and, Bool.false_eq_true, if_false, if_true, Nat.reduceAdd, Nat.reduceSub, Nat.reduceLeDiff, false_implies, true_implies, not_false_eq_true, not_true_eq_false, and_true]
        refine mj_blk rfl ?_
        simp +decide only [mjs_0, mjs_1, mjs_2, mjs_3, mjs_ble, true_and, Bool.false_eq_true, if_false, if_true, Nat.reduceAdd, Nat.reduceSub, Nat.reduceLeDiff, false_implies, true_implies, not_false_eq_true, not_true_eq_false, and_true]
        exact hQ1 ⟨hm, fun i hi => hh i (Nat.zero_le _) hi⟩
      | succ j ih =>
        intro hj hh
        have ea : (nI (bg + (len - many) + j)).toNatClampNeg = bg + (len - many) + j := nI_clamp (by omega)
        have eb : (nI (first + j)).toNatClampNeg = first + j := nI_clamp (by omega)
        have tk : I 31 (bg + (len - many) + j) = nI (f (len - many + j)) := ((rc_fb h _).2.1).trans (by rw [Nat.add_assoc]; exact hf _ (by omega))
        have tp : I 22 (first + j) = nI (M.1 (first + j)) := hM.2.2.1 _ (by omega)
        have lt1 := ht (len - many + j) (by omega)
        have lt2 := hp (first + j) (by omega)
        refine mj_blk rfl ?_
        simp +decide only [mjs_0, mjs_1, mjs_2, mjs_3, mjs_ble, true_and, Bool.false_eq_true, if_false, if_true, Nat.reduceAdd, Nat.reduceSub, Nat.reduceLeDiff, false_implies, true_implies, not_false_eq_true, not_true_eq_false, and_true, pk_m1]
        refine ⟨fun q => absurd q (nI_pos (by omega)), fun _ => mj_blk rfl ?_⟩
        simp +decide only [mjs_0, mjs_1, mjs_2, mjs_3, mjs_ble, true_and, Bool.false_eq_true, if_false, if_true, Nat.reduceAdd, Nat.reduceSub, Nat.reduceLeDiff, false_implies, true_implies, not_false_eq_true, not_true_eq_false, and_true, mc_sh, hr, mjs_up_at, mjs_up_c, mjs_up_f, nI_add, ea, tk]
        refine ⟨nI_in (by omega) (by decide), ?_⟩
        refine c_183 lt1 ?_
        simp +decide only [mjs_0, mjs_1, mjs_2, mjs_3, mjs_ble, true_and, Bool.false_eq_true, if_false, if_true, Nat.reduceAdd, Nat.reduceSub, Nat.reduceLeDiff, false_implies, true_implies, not_false_eq_true, not_true_eq_false, and_true, mc_sh, hr, mjs_up_at, mjs_up_c, mjs_up_f, nI_add, eb, tp]
        refine ⟨nI_in (by omega) (by decide), ?_⟩
        by_cases e : pl (f (len - many + j)) = M.1 (first + j)
        · refine ⟨fun _ => mj_blk rfl ?_, fun q => absurd (congrArg nI e) q⟩
          simp +decide only [mjs_0, mjs_1, mjs_2, mjs_3, mjs_ble, true_and, Bool.false_eq_true, if_false, if_true, Nat.reduceAdd, Nat.reduceSub, Nat.reduceLeDiff, false_implies, true_implies, not_false_eq_true, not_true_eq_false, and_true]
          refine ih (by omega) (fun i h1 h2 => ?_)
          by_cases ei : i = j
          · rw [ei]
            exact e
          · exact hh i (by omega) h2
        · have lt3 : pl (f (len - many + j)) < 2 ^ 31 := by
            unfold pl
            split <;> omega
          refine ⟨fun q => absurd ((nI_eq lt3 lt2).mp q) e, fun _ => mj_blk rfl ?_⟩
          simp +decide only [mjs_0, mjs_1, mjs_2, mjs_3, mjs_ble, true_and, Bool.false_eq_true, if_false, if_true, Nat.reduceAdd, Nat.reduceSub, Nat.reduceLeDiff, false_implies, true_implies, not_false_eq_true, not_true_eq_false, and_true]
          exact hQ0 (fun hh => e (hh.2 j (by omega)))
    refine ⟨fun _ => mj_blk rfl ?_, fun q => absurd (nI_le (a := bg) (b := bg + (len - many)) (by omega) (by omega)) q⟩
    simp +decide only [mjs_0, mjs_1, mjs_2, mjs_3, mjs_ble, true_and, Bool.false_eq_true, if_false, if_true, Nat.reduceAdd, Nat.reduceSub, Nat.reduceLeDiff, false_implies, true_implies, not_false_eq_true, not_true_eq_false, and_true, e1, m1]
    exact mj_nv (lp many (Nat.le_refl _) (fun i h1 h2 => absurd h2 (by omega)))
  · have hn : ¬ nI bg ≤ nI (bg + len) - nI many := by
      intro q
      have q1 := Int32.le_iff_toInt_le.mp q
      rw [pk_sub_toInt (by omega) (by omega), nI_toInt (by omega)] at q1
      omega
    refine ⟨fun q => absurd q hn, fun _ => mj_blk rfl ?_⟩
    simp +decide only [mjs_0, mjs_1, mjs_2, mjs_3, mjs_ble, true_and, Bool.false_eq_true, if_false, if_true, Nat.reduceAdd, Nat.reduceSub, Nat.reduceLeDiff, false_implies, true_implies, not_false_eq_true, not_true_eq_false, and_true]
    exact hQ0 (fun hh => hm hh.1)
def v_L (n first many len dp fo i : Nat) : mj_LV := [some (.ref 36), some (.int (nI n)), some (.int (nI first)), none, some (.int (nI many)), some (.int (nI len)), some (.int (nI dp)), some (.int (nI fo)), none, some (.int (nI i))]
def v_E (n first many len dp fo : Nat) : mj_LV := [some (.ref 36), some (.int (nI n)), some (.int (nI first)), none, some (.int (nI many)), some (.int (nI len)), some (.int (nI dp)), some (.int (nI fo)), none, none]
/-- the reference's comparison with the delimiters -/
theorem r_145m (hM' : mj_Rt mm_R Rf) {dp : Nat} (hv : gv (K, P, E, N, S, M, C, O, L)) (hJ : RR H (K, P, E, N, S, M, C, O, L) J) (hA : raP n A f len H) (hn : n < 9) (hm : many ≤ len) (hl : len ≤ 10001) (htv : ∀ i, i < len → tv N.2.2 (f i)) (hu : first + many ≤ M.2.2.2.1) (hd : ∀ i, i < many → tb N.2.2 (M.1 (first + i)))
    (hq1 : EW f len many first M.1 → mj_rn X (mj_hd []) (mj_call X mj_P (mj_bi X) (d + 6)) mb_145 14 (v_E n first many len dp 1) [] (sh59, J, Lg, Rf, nc, ns) Q) (hq0 : ¬ EW f len many first M.1 → mj_rn X (mj_hd []) (mj_call X mj_P (mj_bi X) (d + 6)) mb_145 14 (v_E n first many len dp 0) [] (sh59, J, Lg, Rf, nc, ns) Q) : ∀ j i, i + j = many → (∀ q, q < i → pl (f (len - many + q)) = M.1 (first + q)) → mj_rn X (mj_hd []) (mj_call X mj_P (mj_bi X) (d + 6)) mb_145 155 (v_L n first many len dp 1 i) [] (sh59, J, Lg, Rf, nc, ns) Q := by
  have hm' := mm_rf hM'
  have hk : N.2.2 ≤ 1036 := (gv_d hv).2.2.1.2.1
  have hk1 : 36 ≤ N.2.2 := (gv_d hv).2.2.1.1
  have hu2 : M.2.2.2.1 ≤ 10000 := (gv_d hv).2.2.2.2.1.2.2.1.2.1
  obtain ⟨jK, jP, jE, jN, jS, jM, jC, jO, jL, jZ⟩ := rr_d hJ
  have hm := mm_rf hM'
  intro j
  induction j with
  | zero =>
    intro i hi hh
    have : i = many := by omega
    subst this
    unfold v_L
    refine mj_blk rfl ?_
    simp +decide only [mjs_0, mjs_1, mjs_2, mjs_3, mjs_ble, true_and, Bool.false_eq_true, if_false, if_true, Nat.reduceAdd, Nat.reduceSub, Nat.reduceLeDiff, false_implies, true_implies, not_false_eq_true, not_true_eq_false, and_true]
    refine ⟨fun _ => mj_blk rfl ?_, fun q => absurd (nI_le (a := i) (b := i) (Nat.le_refl _) (by omega)) q⟩
    simp +decide only [mjs_0, mjs_1, mjs_2, mjs_3, mjs_ble, true_and, Bool.false_eq_true, if_false, if_true, Nat.reduceAdd, Nat.reduceSub, Nat.reduceLeDiff, false_implies, true_implies, not_false_eq_true, not_true_eq_false, and_true]
    exact mj_nv (hq1 ⟨by omega, hh⟩)
  | succ j ih =>
    intro i hi hh
    have e1 : (11000 : Int32) * nI n = nI (11000 * n) := pk_mul 11000 n
    have e2 : nI (11000 * n + len) - nI many = nI (11000 * n + (len - many)) := by
      rw [pk_sub (by omega)]
      congr 1
      omega
    have e3 : (nI (11000 * n + (len - many) + i)).toNatClampNeg = 11000 * n + (len - many) + i := nI_clamp (by omega)
    have e4 : (nI (first + i)).toNatClampNeg = first + i := nI_clamp (by omega)
    have t1 : J 54 (11000 * n + (len - many) + i) = nI (rt (f (len - many + i))) := by
      rw [congrFun (jZ 54 (by omega)) _, Nat.add_assoc]
      exact hA.2 (len - many + i) (by omega)
    have t2 : J 52 (first + i) = nI (rt (M.1 (first + i))) := jM.2.2 _ (by omega)
    unfold v_L
    refine mj_blk rfl ?_
    simp +decide only [mjs_0, mjs_1, mjs_2, mjs_3, mjs_ble, true_and, Bool.false_eq_true, if_false, if_true, Nat.reduceAdd, Nat.reduceSub, Nat.reduceLeDiff, false_implies, true_implies, not_false_eq_true, not_true_eq_false, and_true]
    refine ⟨fun q => absurd q (nI_ge (a := i) (b := many) (by omega) (by omega)), fun _ => mj_blk rfl ?_⟩
    simp +decide only [mjs_0, mjs_1, mjs_2, mjs_3, mjs_ble, true_and, Bool.false_eq_true, if_false, if_true, Nat.reduceAdd, Nat.reduceSub, Nat.reduceLeDiff, false_implies, true_implies, not_false_eq_true, not_true_eq_false, and_true]
    refine mj_blk rfl ?_
    simp +decide only [mjs_0, mjs_1, mjs_2, mjs_3, mjs_ble, true_and, Bool.false_eq_true, if_false, if_true, Nat.reduceAdd, Nat.reduceSub, Nat.reduceLeDiff, false_implies, true_implies, not_false_eq_true, not_true_eq_false, and_true, mm_sh, hm, mjs_up_at, mjs_up_c, mjs_up_f, e1, nI_add, e2, e3, t1]
    refine ⟨nI_in (by omega) (by decide), ?_⟩
    simp +decide only [mjs_0, mjs_1, mjs_2, mjs_3, mjs_ble, true_and, Bool.false_eq_true, if_false, if_true, Nat.reduceAdd, Nat.reduceSub, Nat.reduceLeDiff, false_implies, true_implies, not_false_eq_true, not_true_eq_false, and_true, mm_sh, hm, mjs_up_at, mjs_up_c, mjs_up_f, nI_add, e4, t2]
    refine ⟨nI_in (by omega) (by decide), ?_⟩
    refine rq_141 hk hk1 (htv _ (by omega)) (hd i (by omega)) (fun e => ?_) (fun e => ?_)
    · simp +decide only [mjs_0, mjs_1, mjs_2, mjs_3, mjs_ble, true_and, Bool.false_eq_true, if_false, if_true, Nat.reduceAdd, Nat.reduceSub, Nat.reduceLeDiff, false_implies, true_implies, not_false_eq_true, not_true_eq_false, and_true, nI_1]
      refine mj_nv (ih (i + 1) (by omega) (fun q hq => ?_))
      by_cases eq : q = i
      · rw [eq]
        exact e
      · exact hh q (by omega)
    · have h0 := hq0 (fun hw => e (hw.2 i (by omega)))
      have z : mj_rn X (mj_hd []) (mj_call X mj_P (mj_bi X) (d + 6)) mb_145 207 [some (.ref 36), some (.int (nI n)), some (.int (nI first)), none, some (.int (nI many)), some (.int (nI len)), some (.int (nI dp)), some (.int 0), none, none] [] (sh59, J, Lg, Rf, nc, ns) Q := by
        refine mj_blk rfl ?_
        simp +decide only [mjs_0, mjs_1, mjs_2, mjs_3, mjs_ble, true_and, Bool.false_eq_true, if_false, if_true, Nat.reduceAdd, Nat.reduceSub, Nat.reduceLeDiff, false_implies, true_implies, not_false_eq_true, not_true_eq_false, and_true]
        exact mj_nv h0
      simp +decide only [mjs_0, mjs_1, mjs_2, mjs_3, mjs_ble, true_and, Bool.false_eq_true, if_false, if_true, Nat.reduceAdd, Nat.reduceSub, Nat.reduceLeDiff, false_implies, true_implies, not_false_eq_true, not_true_eq_false, and_true, nI_1]
      refine mj_blk rfl ?_
      simp +decide only [mjs_0, mjs_1, mjs_2, mjs_3, mjs_ble, true_and, Bool.false_eq_true, if_false, if_true, Nat.reduceAdd, Nat.reduceSub, Nat.reduceLeDiff, false_implies, true_implies, not_false_eq_true, not_true_eq_false, and_true]
      refine ⟨fun _ => mj_nv z, fun _ => mj_blk rfl ?_⟩
      simp +decide only [mjs_0, mjs_1, mjs_2, mjs_3, mjs_ble, true_and, Bool.false_eq_true, if_false, if_true, Nat.reduceAdd, Nat.reduceSub, Nat.reduceLeDiff, false_implies, true_implies, not_false_eq_true, not_true_eq_false, and_true]
      exact mj_nv z
end MJDL
