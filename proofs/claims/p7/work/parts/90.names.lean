/-! NAMES FOUND OR MADE, in both -/
def mxm : List Nat → Nat → Bool
  | [], _ => false
  | x :: r, b => Nat.beq x b || mxm r b
/-- A at the cells c, else B -/
def mx (c : List Nat) (A B : Nat → Nat → Int32) : Nat → Nat → Int32 := fun b => cond (mxm c b) (A b) (B b)
theorem mx_on {A B : Nat → Nat → Int32} (Pr : (Nat → Nat → Int32) → Prop) (c : List Nat) (h : ∀ b q, mxm c b = false → A b q = B b q) (h2 : Pr (mx c A B)) : Pr A := by
  have e : A = mx c A B := by
    funext b q
    unfold mx
    cases hb : mxm c b with
    | true => rfl
    | false => exact h b q hb
  rw [e]
  exact h2
theorem mxm_ne {c : List Nat} {b x : Nat} (h : mxm c b = false) (hx : x ∈ c) : b ≠ x := by
  induction c with
  | nil => cases hx
  | cons y r ih =>
    unfold mxm at h
    rw [Bool.or_eq_false_iff] at h
    rcases List.mem_cons.mp hx with rfl | hx
    · intro e
      rw [e] at h
      rw [Nat.beq_refl] at h
      cases h.1
    · exact ih h.2 hx
theorem mx_z {A B : Nat → Nat → Int32} {b : Nat} (hb : b < 36 ∨ (48 ≤ b ∧ b ≤ 51) ∨ b = 54 ∨ b = 55) : ∀ {c : List Nat}, (c.all fun x => decide (36 ≤ x ∧ ¬ (48 ≤ x ∧ x ≤ 51) ∧ x ≠ 54 ∧ x ≠ 55)) = true → mx c A B b = B b := by
  intro c hc
  have h : mxm c b = false := by
    induction c with
    | nil => rfl
    | cons x r ih =>
      rw [List.all_cons, Bool.and_eq_true] at hc
      obtain ⟨h1, h4⟩ := hc
      have hx := of_decide_eq_true h1
      unfold mxm
      rw [ih h4, Bool.or_false]
      cases hh : Nat.beq x b with
      | false => rfl
      | true =>
        have e := Nat.eq_of_beq_eq_true hh
        omega
  unfold mx
  rw [h]
  rfl
/-- what is known stays known -/
def nx (N N' : sgN) : Prop := N.2.2 ≤ N'.2.2 ∧ ∀ i, i < N.2.2 → N'.1 i = N.1 i ∧ N'.2.1 i = N.2.1 i
theorem nx_rf {N : sgN} : nx N N := ⟨Nat.le_refl _, fun _ _ => ⟨rfl, rfl⟩⟩
theorem nx_tr {N N' N'' : sgN} (h : nx N N') (h' : nx N' N'') : nx N N'' := ⟨Nat.le_trans h.1 h'.1, fun i hi => ⟨(h'.2 i (Nat.lt_of_lt_of_le hi h.1)).1.trans (h.2 i hi).1, (h'.2 i (Nat.lt_of_lt_of_le hi h.1)).2.trans (h.2 i hi).2⟩⟩
section MJNF
variable {X : mj_X} {d nc ns : Nat} {Q : mj_Q} {I J H : Nat → Nat → Int32} {Lg : Nat → Nat → Int64} {Rf : Nat → Nat → Option Nat} {fb : Nat → Nat → Int32} {vb : Nat → Int32} {K : Nat × Nat × Nat} {P : List Nat} {E : sgE} {N : sgN} {S : sgS} {M : sgM} {C : sgC} {O : sgO} {L : sgL} {w : Nat → Nat} {len : Nat}
def nN (N : sgN) (w : Nat → Nat) (len : Nat) : sgN := (ud N.1 N.2.2 w, ud N.2.1 N.2.2 len, N.2.2 + 1)
theorem nN_nx : nx N (nN N w len) := ⟨Nat.le_succ _, fun i hi => ⟨ud_ne (by omega), ud_ne (by omega)⟩⟩
theorem fd_is_sy {nm : Nat → Nat → Nat} {ln : Nat → Nat} {i j : Nat} (h : fd_is nm ln (nm j) (ln j) i) : fd_is nm ln (nm i) (ln i) j := ⟨h.1.symm, fun q hq => (h.2 q (by have := h.1; omega)).symm⟩
theorem nN_gvN (h : gvN N) (hk : N.2.2 < 1036) (hl : len ≤ 40) (hw : ∀ j, j < len → w j < 256) (hno : ∀ i, i < N.2.2 → ¬ fd_is N.1 N.2.1 w len i) : gvN (nN N w len) := by
  obtain ⟨h1, h2, h3, h4, h5⟩ := h
  have key : ∀ i, i < N.2.2 → ¬ fd_is (nN N w len).1 (nN N w len).2.1 ((nN N w len).1 N.2.2) ((nN N w len).2.1 N.2.2) i := by
    intro i hi hh
    refine hno i hi ?_
    unfold fd_is nN at hh
    simp only [ud_at, ud_ne (show i ≠ N.2.2 by omega)] at hh
    exact hh
  refine ⟨Nat.le_succ_of_le h1, hk, fun i hi => ?_, fun i j hi hj hh => ?_, fun i hi => ?_⟩
  · by_cases e : i = N.2.2
    · unfold nN
      simp only [e, ud_at]
      exact ⟨hl, hw⟩
    · unfold nN
      simp only [ud_ne e]
      exact h3 i (by simp only [nN] at hi; omega)
  · simp only [nN] at hi hj
    by_cases ej : j = N.2.2
    · by_cases ei : i = N.2.2
      · rw [ei, ej]
      · rw [ej] at hh
        exact absurd hh (key i (by omega))
    · by_cases ei : i = N.2.2
      · rw [ei] at hh
        exact absurd (fd_is_sy hh) (key j (by omega))
      · refine h4 i j (by omega) (by omega) ?_
        unfold fd_is nN at hh
        simp only [ud_ne ei, ud_ne ej] at hh
        exact hh
  · have e : i ≠ N.2.2 := by omega
    unfold nN
    simp only [ud_ne e]
    exact h5 i hi
theorem mv_0 {made : Nat} : mv made 0 := Or.inl rfl
theorem nN_gv (h : gv (K, P, E, N, S, M, C, O, L)) (hk : N.2.2 < 1036) (hl : len ≤ 40) (hw : ∀ j, j < len → w j < 256) (hno : ∀ i, i < N.2.2 → ¬ fd_is N.1 N.2.1 w len i) : gv (K, P, E, nN N w len, S, M, C, O, L) := by
  obtain ⟨h1, h2, h3, h4, h5, h6⟩ := h
  refine ⟨fun t ht => tv_mono (Nat.le_succ _) (h1 t ht), h2, nN_gvN h3 hk hl hw hno, ⟨h4.1, h4.2.1, fun l x hl hx hx2 => ?_, fun l x hl hx hx2 => ?_⟩, ⟨h5.1, h5.2.1, h5.2.2.1, fun j hj => pv_mono (Nat.le_succ _) (h5.2.2.2 j hj)⟩, h6⟩
  · simp only [nN] at hx2
    by_cases e : x < 768 + N.2.2
    · exact h4.2.2.1 l x hl hx e
    · rw [h4.2.2.2 l x hl (by first | omega | (dsimp only; omega)) (by omega)]
      exact mv_0
  · simp only [nN] at hx
    exact h4.2.2.2 l x hl (by first | omega | (dsimp only; omega)) hx2
theorem mc_nm (hR : mj_Rt mp_R Rf) : nm_C sh59 Rf 2 3 4 5 6 := ⟨rfl, rfl, rfl, rfl, rfl, hR.at (by decide), hR.at (by decide), hR.at (by decide), hR.at (by decide)⟩
theorem cq_57 (hR : mj_Rt mp_R Rf) (h : RC fb vb (K, P, E, N, S, M, C, O, L) I) (hv : gv (K, P, E, N, S, M, C, O, L)) {r rn a : Nat} (hr : sh59[r]? = some (1000, rn)) (hrn : rn < 2 ^ 31) (hal : a + len ≤ rn) (hlen : len ≤ 40) (hw : ∀ j, j < len → I r (a + j) = nI (w j) ∧ w j < 256)
    (hQ1 : ∀ x, x < N.2.2 → fd_is N.1 N.2.1 w len x → Q (.inl (some (.int (nI x)))) (sh59, I, Lg, Rf, nc, ns))
    (hQ2 : N.2.2 = 1036 → (∀ i, i < N.2.2 → ¬ fd_is N.1 N.2.1 w len i) → Q (.inl (some (.int (-1)))) (sh59, I, Lg, Rf, nc, ns))
    (hQ3 : N.2.2 < 1036 → (∀ i, i < N.2.2 → ¬ fd_is N.1 N.2.1 w len i) → ∀ I', RC fb vb (K, P, E, nN N w len, S, M, C, O, L) I' → (∀ q, I' 20 q = I 20 q) → Q (.inl (some (.int (nI N.2.2)))) (sh59, I', Lg, Rf, nc, ns)) :
    mj_call X mj_P (mj_bi X) (d + 1) 57 [.ref 2, .ref r, .int (nI a), .int (nI len)] (sh59, I, Lg, Rf, nc, ns) Q := by
  obtain ⟨hK, hP, hE, ⟨st, hN, hH⟩, hS, hM, hC, hO, hL, hZ⟩ := rc_d (h)
  refine c_57x (mc_nm hR) hr hrn hal hlen (fun j hj => ⟨(hw j hj).1, by have := (hw j hj).2; omega⟩) hN hH (fun h' => absurd h' (by have := (gv_d hv).2.2.1.1; omega)) hQ1 hQ2 (fun hk hno I' a1 a2 a3 a4 => hQ3 hk hno I' ?_ (fun q => a3 20 q (by decide) (by decide) (by decide) (by decide) (by decide)))
  have e3 : ∀ b q, mxm [2, 3, 4, 5, 6] b = false → I' b q = I b q := fun b q hb => a3 b q (mxm_ne hb (by decide)) (mxm_ne hb (by decide)) (mxm_ne hb (by decide)) (mxm_ne hb (by decide)) (mxm_ne hb (by decide))
  refine mx_on (RC fb vb (K, P, E, nN N w len, S, M, C, O, L)) [2, 3, 4, 5, 6] e3 ?_
  exact ⟨hK, hP, hE, ⟨_, a1, a2⟩, hS, hM, hC, hO, hL, hZ⟩
/-- the reference's name token: a name that it knows; one too many; a new one -/
theorem rr_is (h : rrN N J) (hv : gvN N) {rn : Nat → Nat → Nat} {rl : Nat → Nat} (e : ∀ i, i < N.2.2 → rl (rp i) = N.2.1 i ∧ ∀ j, j < N.2.1 i → rn (rp i) j = N.1 i j) {i : Nat} (hi : i < N.2.2) : fd_is rn rl w len (rp i) ↔ fd_is N.1 N.2.1 w len i := by
  obtain ⟨e1, e2⟩ := e i hi
  unfold fd_is
  rw [e1]
  constructor
  · rintro ⟨a, b⟩
    exact ⟨a, fun j hj => by rw [← e2 j (by omega)]; exact b j hj⟩
  · rintro ⟨a, b⟩
    exact ⟨a, fun j hj => by rw [e2 j (by omega)]; exact b j hj⟩
theorem rq_110 (hM' : mj_Rt mm_R Rf) (h : RR H (K, P, E, N, S, M, C, O, L) J) (hv : gv (K, P, E, N, S, M, C, O, L)) (hs : rd_S J 36 w len)
    (hQ1 : ∀ x, x < N.2.2 → fd_is N.1 N.2.1 w len x → Q (.inl (some (.int (nI (65536 + rp x))))) (sh59, J, Lg, Rf, nc, ns))
    (hQ2 : N.2.2 = 1036 → (∀ i, i < N.2.2 → ¬ fd_is N.1 N.2.1 w len i) → ∀ J', RD H (K, P, E, N, S, M, C, O, L) J' → Q (.inl (some (.int (-1)))) (sh59, J', Lg, Rf, nc, ns))
    (hQ3 : N.2.2 < 1036 → (∀ i, i < N.2.2 → ¬ fd_is N.1 N.2.1 w len i) → ∀ J', RR H (K, P, E, nN N w len, S, M, C, O, L) J' → Q (.inl (some (.int (nI (65536 + N.2.2))))) (sh59, J', Lg, Rf, nc, ns)) :
    mj_call X mj_P (mj_bi X) (d + 2) 110 [.ref 36] (sh59, J, Lg, Rf, nc, ns) Q := by
  have h' := h
  obtain ⟨hK, hP, hE, hN, hS, hM, hC, hO, hL, hZ⟩ := rr_d (h)
  have hN' := hN
  obtain ⟨rn, rl, a1, a2⟩ := hN
  have vN := (gv_d hv).2.2.1
  have hno : (∀ i, i < N.2.2 → ¬ fd_is rn rl w len i) → ∀ i, i < N.2.2 → ¬ fd_is N.1 N.2.1 w len i := fun hh i hi hx => hh (rp i) (rp_lt hi vN.1) ((rr_is hN' vN a2 hi).mpr hx)
  refine r_110 (mm_W hM') a1 hs vN.1 hS.1 (gv_d hv).2.2.2.1.1 hK.2.2.2 (fun x hx hi => ?_) (fun hk hn => hQ2 hk (hno hn) _ (rr_f (f := 2) (by decide) (by decide) h')) (fun hk hn J1 J' b1 b2 b3 b4 => hQ3 hk (hno hn) J' ?_)
  · obtain ⟨i, hi1, rfl⟩ := rp_sur hx vN.1
    exact hQ1 i hi1 ((rr_is hN' vN a2 hi1).mp hi)
  · obtain ⟨c1, c2, c3⟩ := b4
    have k36 := vN.1
    have k1036 : N.2.2 ≤ 1036 := vN.2.1
    have e3 : ∀ b q, mxm [36, 40, 41, 45] b = false → J' b q = J b q := fun b q hb => (c1 b q (mxm_ne hb (by decide))).trans (b2 b q (mxm_ne hb (by decide)) (mxm_ne hb (by decide)) (mxm_ne hb (by decide)))
    have f36 : ∀ q, q ≠ 11 → J' 36 q = J 36 q := fun q hq => (c1 36 q (by decide)).trans (b3 q hq)
    have eN : rd_C J' 36 (ud rn N.2.2 w) (ud rl N.2.2 len) (N.2.2 + 1) := by
      obtain ⟨d1, d2, d3⟩ := b1
      refine ⟨(c1 36 11 (by decide)).trans d1, d2, fun id hid => ?_⟩
      have d4 := d3 id hid
      rw [c1 (36 + 5) id (by decide)]
      refine ⟨d4.1, d4.2.1, fun j hj => ?_⟩
      rw [c1 (36 + 4) _ (by decide)]
      exact d4.2.2 j hj
    have e45 : ∀ l q, l ≤ S.2.2.1 → q < 1400 → q ≠ N.2.2 → J' 45 (1400 * l + q) = J 45 (1400 * l + q) := by
      intro l q hl hq hne
      rw [c3 _ (fun l' _ _ he => by omega)]
      exact b2 45 _ (by decide) (by decide) (by decide)
    have z45 : ∀ l, l ≤ S.2.2.1 → J' 45 (1400 * l + N.2.2) = 0 := fun l hl => c2 l (Nat.zero_le _) (by omega)
    refine mx_on (RR H (K, P, E, nN N w len, S, M, C, O, L)) [36, 40, 41, 45] e3 ?_
    have fx : ∀ q, q ≠ 11 → mx [36, 40, 41, 45] J' J 36 q = J 36 q := f36
    refine ⟨⟨(f36 36 (by decide)).trans hK.1, (f36 37 (by decide)).trans hK.2.1, (f36 38 (by decide)).trans hK.2.2.1, (f36 39 (by decide)).trans hK.2.2.2⟩, ⟨(f36 29 (by decide)).trans hP.1, hP.2⟩, hE, ⟨_, _, eN, fun i hi => ?_⟩, ⟨(f36 17 (by decide)).trans hS.1, hS.2.1, fun l c hl hc => ?_, fun l i hl hi => ?_, hS.2.2.2.2⟩, ⟨(f36 27 (by decide)).trans hM.1, (f36 22 (by decide)).trans hM.2.1, hM.2.2⟩, ⟨(f36 33 (by decide)).trans hC.1, hC.2⟩, ⟨⟨(f36 3 (by decide)).trans hO.1.1, hO.1.2⟩, (f36 40 (by decide)).trans hO.2⟩, ?_, fun c hc => (mx_z hc rfl).trans (hZ c hc)⟩
    · simp only [nN] at hi ⊢
      by_cases e : i = N.2.2
      · rw [e, rp_id (Or.inr k36), ud_at, ud_at, ud_at, ud_at]
        exact ⟨rfl, fun _ _ => rfl⟩
      · have hlt := rp_lt (show i < N.2.2 by omega) k36
        rw [ud_ne (show rp i ≠ N.2.2 by omega), ud_ne (show rp i ≠ N.2.2 by omega), ud_ne e, ud_ne e]
        exact a2 i (by omega)
    · obtain ⟨s1, s2, s3⟩ := hS.2.2.1 l c hl hc
      refine ⟨s1, s2, ?_⟩
      show mw M _ _ _ _ _ (J' 45 _)
      rw [e45 l _ hl (by omega) (by omega)]
      exact s3
    · show mw M _ _ _ _ _ (J' 45 _)
      simp only [nN] at hi
      by_cases e : i = N.2.2
      · rw [e, rp_id (Or.inr k36), z45 l hl, (gv_d hv).2.2.2.1.2.2.2 l (768 + N.2.2) hl (Nat.le_refl _) (by first | omega | (dsimp only; omega))]
        exact Or.inl ⟨rfl, rfl⟩
      · have hlt := rp_lt (show i < N.2.2 by omega) k36
        rw [e45 l _ hl (by omega) (by omega)]
        exact hS.2.2.2.1 l i hl (by first | omega | (dsimp only; omega))
    · obtain ⟨l1, l2, l3, ⟨lp, l4, l5, l6, l7⟩, ⟨ln, l8, l9⟩, l10⟩ := hL
      exact ⟨(f36 1 (by decide)).trans l1, (f36 5 (by decide)).trans l2, fun he => (f36 10 (by decide)).trans (l3 he), ⟨lp, (f36 9 (by decide)).trans l4, (f36 8 (by decide)).trans l5, l6, l7⟩, ⟨ln, (f36 6 (by decide)).trans l8, l9⟩, l10⟩
end MJNF
