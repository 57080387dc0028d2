/-! ALL LEVELS OF EXPANSION; groups opened and closed, in both -/
def opS (S : sgS) (b : Nat) : sgS := (fun l => if l = S.2.2.1 + 1 then S.1 S.2.2.1 else S.1 l, ud S.2.1 S.2.2.1 b, S.2.2.1 + 1, S.2.2.2)
def clS (S : sgS) (s' : Nat) : sgS := (S.1, S.2.1, S.2.2.1 - 1, s')
section MJGR
variable {X : mj_X} {d nc ns : Nat} {Q : mj_Q} {I I' J J' H : Nat → Nat → Int32} {Lg : Nat → Nat → Int64} {Rf : Nat → Nat → Option Nat} {fb fb' : Nat → Nat → Int32} {vb : Nat → Int32} {K K' K'' : Nat × Nat × Nat} {P P' P'' : List Nat} {E : sgE} {N N' N'' : sgN} {S S' S'' : sgS} {M : sgM} {C C' C'' : sgC} {O : sgO} {L L' L'' : sgL} {t n kc kr b s' : Nat}
theorem lev_all (hR : mj_Rt mp_R Rf) (hM' : mj_Rt mm_R Rf) (hT : X.2.1[0]? = some mj_t1) : ∀ n, XP X Rf vb (12 * n + 10) (18 * n + 10) n ∧ NU X Rf vb (12 * n + 10) (18 * n + 10) n
  | 0 => ⟨xp_mono (xp_0 hR hM') (by omega) (by omega), nu_mono (nu_0 hR hM') (by omega) (by omega)⟩
  | n + 1 => by
    obtain ⟨h1, h2⟩ := lev_all hR hM' hT n
    have hX := xd_of hR hM' (by omega) (by omega) h1
    exact ⟨xp_mono (xp_s hR hM' hT h1 hX h2) (by omega) (by omega), nu_mono (nu_s hR hM' hX (nu_mono h2 (by omega) (by omega))) (by omega) (by omega)⟩
theorem lev_40 (hR : mj_Rt mp_R Rf) (hM' : mj_Rt mm_R Rf) (hT : X.2.1[0]? = some mj_t1) : XD X Rf vb 491 731 40 ∧ NU X Rf vb 491 731 40 := by
  obtain ⟨h1, h2⟩ := lev_all (vb := vb) hR hM' hT 40
  exact ⟨xd_of hR hM' (by decide) (by decide) h1, nu_mono h2 (by decide) (by decide)⟩
theorem gv_op (hv : gv (K, P, E, N, S, M, C, O, L)) (hl : S.2.2.1 < 100) : gv (K, P, E, N, opS S b, M, C, O, L) := by
  obtain ⟨g1, g2, g3, ⟨s1, s2, s3, s4⟩, g5, g6, g7, g8⟩ := gv_d hv
  have key : ∀ l x, l ≤ S.2.2.1 + 1 → ∃ l', l' ≤ S.2.2.1 ∧ (opS S b).1 l x = S.1 l' x := by
    intro l x hl'
    show ∃ l', l' ≤ S.2.2.1 ∧ (if l = S.2.2.1 + 1 then S.1 S.2.2.1 else S.1 l) x = S.1 l' x
    by_cases e : l = S.2.2.1 + 1
    · rw [if_pos e]
      exact ⟨_, Nat.le_refl _, rfl⟩
    · rw [if_neg e]
      exact ⟨l, by omega, rfl⟩
  refine ⟨g1, g2, g3, ⟨hl, fun l c hl' hc => ?_, fun l x hl' hx hx2 => ?_, fun l x hl' hx hx2 => ?_⟩, g5, g6, g7, g8⟩
  · obtain ⟨l', k1, k2⟩ := key l (256 + c) hl'
    rw [k2]
    exact s2 l' c k1 hc
  · obtain ⟨l', k1, k2⟩ := key l x hl'
    rw [k2]
    exact s3 l' x k1 hx hx2
  · obtain ⟨l', k1, k2⟩ := key l x hl'
    rw [k2]
    exact s4 l' x k1 hx hx2
theorem gv_cl (hv : gv (K, P, E, N, S, M, C, O, L)) : gv (K, P, E, N, clS S s', M, C, O, L) := by
  obtain ⟨g1, g2, g3, ⟨s1, s2, s3, s4⟩, g5, g6, g7, g8⟩ := gv_d hv
  have le : ∀ l, l ≤ S.2.2.1 - 1 → l ≤ S.2.2.1 := fun l hl => by omega
  exact ⟨g1, g2, g3, ⟨by show S.2.2.1 - 1 ≤ 100; omega, fun l c hl hc => s2 l c (le l hl) hc, fun l x hl hx hx2 => s3 l x (le l hl) hx hx2, fun l x hl hx hx2 => s4 l x (le l hl) hx hx2⟩, g5, g6, g7, g8⟩
theorem cq_99 (hR : mj_Rt mp_R Rf) (hv : gv (K, P, E, N, S, M, C, O, L)) (h : RC fb vb (K, P, E, N, S, M, C, O, L) I) (hr' : nc + 1 ≤ X.2.2.1 ∧ ns + 6 ≤ X.2.2.2) (hQ1 : S.2.2.1 < 100 → ∀ I', RC fb vb (K, P, E, N, opS S b, M, C, O, L) I' → Q (.inl none) (sh59, I', Lg, Rf, nc, ns)) (hQ2 : S.2.2.1 = 100 → ∀ I', RCf fb vb (K, P, E, N, S, M, C, O, L) I' → Q (.inr 500) (sh59, I', Lg, Rf, nc + 1, ns + 6)) : mj_call X mj_P (mj_bi X) (d + 2) 99 [.ref 9, .int (nI b)] (sh59, I, Lg, Rf, nc, ns) Q := by
  have h' := h
  obtain ⟨hK, hP, hE, hN, ⟨Lv, sl, le, gs, ⟨hS, hS0⟩, hT⟩, hM, hC, hO, hL, hZ⟩ := rc_d h
  refine c_99 hR hS hr' (fun hlt I' a1 a2 a3 a4 => hQ1 hlt I' ?_) (fun he => hQ2 he _ (rc_f hv h'))
  have e3 : ∀ c q, mxm [9, 10, 12, 13, 14, 15, 16] c = false → I' c q = I c q := fun c q hb => a2 c q (mxm_ne hb (by decide)) (mxm_ne hb (by decide)) (mxm_ne hb (by decide))
  refine mx_on (RC fb vb (K, P, E, N, opS S b, M, C, O, L)) [9, 10, 12, 13, 14, 15, 16] e3 ?_
  refine ⟨hK, hP, hE, hN, ⟨Lv, sl, le, ud gs S.2.2.1 S.2.2.2, ⟨a1, ?_⟩, fun l z hl hz => ?_⟩, hM, hC, hO, hL, hZ⟩
  · show lv_g (ud gs S.2.2.1 S.2.2.2) (S.2.2.1 + 1) S.2.2.2 0 = 0
    unfold lv_g at hS0 ⊢
    rw [if_pos (Nat.succ_pos _)]
    by_cases e : S.2.2.1 = 0
    · rw [if_neg (by omega)] at hS0
      rw [e, ud_at]
      exact hS0
    · rw [if_pos (by omega)] at hS0
      rw [ud_ne (by omega)]
      exact hS0
  · have hl' : l ≤ S.2.2.1 + 1 := hl
    show st_T I' Lv sl le (ud gs S.2.2.1 S.2.2.2) (S.2.2.1 + 1) S.2.2.2 l z = (if l = S.2.2.1 + 1 then S.1 S.2.2.1 else S.1 l) z
    by_cases e : l = S.2.2.1 + 1
    · rw [if_pos e, e]
      unfold st_T
      rw [lv_T_G]
      have := hT S.2.2.1 z (Nat.le_refl _) hz
      unfold st_T at this
      rw [lv_T_G] at this
      rw [show I' 10 = I 10 from funext fun q => a2 10 q (by decide) (by decide) (by decide)]
      exact this
    · rw [if_neg e, a4 l (by omega)]
      exact hT l z (show l ≤ S.2.2.1 by omega) hz
theorem cq_100 (hR : mj_Rt mp_R Rf) (hv : gv (K, P, E, N, S, M, C, O, L)) (h : RC fb vb (K, P, E, N, S, M, C, O, L) I) (hr' : nc + 1 ≤ X.2.2.1 ∧ ns + 6 ≤ X.2.2.2) (hkd : ∀ l, l < S.2.2.1 → S.2.1 l ≤ 1) (hb : b ≤ 1) (hQ1 : (1 ≤ S.2.2.1 ∧ S.2.1 (S.2.2.1 - 1) = b) → ∀ I' s', s' ≤ S.2.2.2 → RC fb vb (K, P, E, N, clS S s', M, C, O, L) I' → Q (.inl none) (sh59, I', Lg, Rf, nc, ns)) (hQ2 : ¬ (1 ≤ S.2.2.1 ∧ S.2.1 (S.2.2.1 - 1) = b) → ∀ I', RCf fb vb (K, P, E, N, S, M, C, O, L) I' → Q (.inr 500) (sh59, I', Lg, Rf, nc + 1, ns + 6)) : mj_call X mj_P (mj_bi X) (d + 2) 100 [.ref 9, .int (nI b)] (sh59, I, Lg, Rf, nc, ns) Q := by
  have h' := h
  obtain ⟨hK, hP, hE, hN, ⟨Lv, sl, le, gs, ⟨hS, hS0⟩, hT⟩, hM, hC, hO, hL, hZ⟩ := rc_d h
  refine c_100 hR hS hr' (fun H I' Lv' hG hk a1 a2 a3 a4 a5 => ?_) (fun hh => ?_)
  · have hGH : S.2.2.1 - 1 = H := by omega
    have hkH := hkd H (by omega)
    have ekb : S.2.1 H = b := (nI_eq (by omega) (by omega)).mp hk
    refine hQ1 ⟨by omega, by rw [hGH]; exact ekb⟩ I' (gs H) a2 ?_
    have e3 : ∀ c q, mxm [9, 10, 12, 13, 14, 15, 16] c = false → I' c q = I c q := fun c q hb => a3 c q (mxm_ne hb (by decide)) (mxm_ne hb (by decide)) (mxm_ne hb (by decide))
    refine mx_on (RC fb vb (K, P, E, N, clS S (gs H), M, C, O, L)) [9, 10, 12, 13, 14, 15, 16] e3 ?_
    refine ⟨hK, hP, hE, hN, ⟨Lv', sl, le, gs, ⟨?_, ?_⟩, fun l z hl hz => ?_⟩, hM, hC, hO, hL, hZ⟩
    · show st_H I' Lv' sl le gs S.2.1 (S.2.2.1 - 1) (gs H)
      rw [hGH]
      exact a1
    · show lv_g gs (S.2.2.1 - 1) (gs H) 0 = 0
      unfold lv_g at hS0 ⊢
      rw [if_pos (by omega)] at hS0
      by_cases e : H = 0
      · rw [if_neg (by omega), e]
        exact hS0
      · rw [if_pos (by omega)]
        exact hS0
    · show st_T I' Lv' sl le gs (S.2.2.1 - 1) (gs H) l z = S.1 l z
      have hl' : l ≤ S.2.2.1 - 1 := hl
      rw [hGH, a5 l (by omega), ← hG]
      exact hT l z (show l ≤ S.2.2.1 by omega) hz
  · refine hQ2 (fun hq => ?_) _ (rc_f hv h')
    rcases hh with e | ⟨H, e1, e2⟩
    · omega
    · have hGH : S.2.2.1 - 1 = H := by omega
      rw [hGH] at hq
      exact e2 (by rw [hq.2])
/-- the reference's -/
theorem rq_164 (hM' : mj_Rt mm_R Rf) (h : RR H (K, P, E, N, S, M, C, O, L) J) (hb : b ≤ 1) (hQ1 : S.2.2.1 < 100 → ∀ J', RR H (K, P, E, N, opS S b, M, C, O, L) J' → Q (.inl none) (sh59, J', Lg, Rf, nc, ns)) (hQ2 : S.2.2.1 = 100 → ∀ J', RD H (K, P, E, N, S, M, C, O, L) J' → Q (.inl none) (sh59, J', Lg, Rf, nc, ns)) : mj_call X mj_P (mj_bi X) (d + 2) 164 [.ref 36, .int (nI (1 - b))] (sh59, J, Lg, Rf, nc, ns) Q := by
  have h' := h
  obtain ⟨hK, hP, hE, hN, hS, hM, hC, hO, hL, hZ⟩ := rr_d h
  have b01 : b = 0 ∨ b = 1 := by omega
  refine r_164 (mm_W hM') hS.1 hS.2.2.2.2 hK.2.2.2 (by rcases b01 with rfl | rfl <;> decide) (fun hlt J' hop => hQ1 hlt J' ?_) (fun he => hQ2 he _ (rr_f (f := 2) (by decide) (by decide) h'))
  obtain ⟨o1, ⟨p1, p2⟩, ⟨q1, q2⟩, ⟨u1, u2⟩, o5, o6, o7, o8⟩ := hop
  have e3 : ∀ c q, mxm [36, 44, 45, 46, 47] c = false → J' c q = J c q := fun c q hb => o1 c q (mxm_ne hb (by decide)) (mxm_ne hb (by decide)) (mxm_ne hb (by decide)) (mxm_ne hb (by decide)) (mxm_ne hb (by decide))
  refine mx_on (RR H (K, P, E, N, opS S b, M, C, O, L)) [36, 44, 45, 46, 47] e3 ?_
  have t45 : ∀ l q, l ≤ S.2.2.1 + 1 → q < 1400 → ∃ l', l' ≤ S.2.2.1 ∧ (l' = if l = S.2.2.1 + 1 then S.2.2.1 else l) ∧ J' 45 (1400 * l + q) = J 45 (1400 * l' + q) := by
    intro l q hl hq
    by_cases e : l = S.2.2.1 + 1
    · refine ⟨S.2.2.1, Nat.le_refl _, by rw [if_pos e], ?_⟩
      rw [e]
      exact p1 q hq
    · refine ⟨l, by omega, by rw [if_neg e], p2 _ (Or.inl ?_)⟩
      have : 1400 * l + 1400 ≤ 1400 * (S.2.2.1 + 1) := by
        rw [← Nat.mul_succ]
        exact Nat.mul_le_mul_left _ (by omega)
      omega
  have t46 : ∀ l q, l ≤ S.2.2.1 + 1 → q < 256 → ∃ l', l' ≤ S.2.2.1 ∧ (l' = if l = S.2.2.1 + 1 then S.2.2.1 else l) ∧ J' 46 (256 * l + q) = J 46 (256 * l' + q) ∧ J' 47 (256 * l + q) = J 47 (256 * l' + q) := by
    intro l q hl hq
    by_cases e : l = S.2.2.1 + 1
    · refine ⟨S.2.2.1, Nat.le_refl _, by rw [if_pos e], ?_, ?_⟩
      · rw [e]
        exact q1 q hq
      · rw [e]
        exact u1 q hq
    · have : 256 * l + 256 ≤ 256 * (S.2.2.1 + 1) := by
        rw [← Nat.mul_succ]
        exact Nat.mul_le_mul_left _ (by omega)
      exact ⟨l, by omega, by rw [if_neg e], q2 _ (Or.inl (by omega)), u2 _ (Or.inl (by omega))⟩
  have tab : ∀ l x, (opS S b).1 l x = S.1 (if l = S.2.2.1 + 1 then S.2.2.1 else l) x := by
    intro l x
    show (if l = S.2.2.1 + 1 then S.1 S.2.2.1 else S.1 l) x = _
    by_cases e : l = S.2.2.1 + 1
    · rw [if_pos e, if_pos e]
    · rw [if_neg e, if_neg e]
  refine ⟨⟨(o5 36 (by decide)).trans hK.1, (o5 37 (by decide)).trans hK.2.1, (o5 38 (by decide)).trans hK.2.2.1, (o5 39 (by decide)).trans hK.2.2.2⟩, ⟨(o5 29 (by decide)).trans hP.1, hP.2⟩, hE, ?_, ⟨o6, fun l hl => ?_, fun l c hl hc => ?_, fun l i hl hi => ?_, hlt⟩, ⟨(o5 27 (by decide)).trans hM.1, (o5 22 (by decide)).trans hM.2.1, hM.2.2⟩, ⟨(o5 33 (by decide)).trans hC.1, hC.2⟩, ⟨⟨(o5 3 (by decide)).trans hO.1.1, hO.1.2⟩, (o5 40 (by decide)).trans hO.2⟩, ?_, fun c hc => (mx_z hc rfl).trans (hZ c hc)⟩
  · obtain ⟨rn, rl, n1, n2⟩ := hN
    exact ⟨rn, rl, ⟨(o5 11 (by decide)).trans n1.1, n1.2⟩, n2⟩
  · have hl' : l < S.2.2.1 + 1 := hl
    show J' 44 (l + 1) = if ud S.2.1 S.2.2.1 b l = 0 then 1 else 0
    by_cases e : l = S.2.2.1
    · rw [e, ud_at]
      refine (show J' 44 (S.2.2.1 + 1) = nI (1 - b) from o7).trans ?_
      rcases b01 with rfl | rfl
      · rfl
      · rfl
    · rw [ud_ne e, show J' 44 (l + 1) = J 44 (l + 1) from o8 (l + 1) (by omega)]
      exact hS.2.1 l (by omega)
  · obtain ⟨l', k1, k2, k3, k4⟩ := t46 l c hl hc
    obtain ⟨l2, m1, m2, m3⟩ := t45 l (1100 + c) hl (by omega)
    have el : l2 = l' := m2.trans k2.symm
    subst el
    obtain ⟨s1, s2, s3⟩ := hS.2.2.1 l2 c m1 hc
    rw [tab, tab, tab, ← m2]
    exact ⟨k3.trans s1, k4.trans s2, by show mw M _ _ _ _ _ (J' 45 _); rw [m3]; exact s3⟩
  · have hi' : i < N.2.2 := hi
    have hri : rp i < 1400 := by
      unfold rp
      split
      · decide
      · split
        · omega
        · have : N.2.2 ≤ 1036 := by
            obtain ⟨rn, rl, n1, n2⟩ := hN
            exact n1.2.1
          omega
    obtain ⟨l2, m1, m2, m3⟩ := t45 l (rp i) hl hri
    rw [tab, ← m2]
    show mw M _ _ _ _ _ (J' 45 _)
    rw [m3]
    exact hS.2.2.2.1 l2 i m1 hi
  · obtain ⟨l1, l2, l3, ⟨lp, l4, l5, l6, l7⟩, ⟨ln, l8, l9⟩, l10⟩ := hL
    exact ⟨(o5 1 (by decide)).trans l1, (o5 5 (by decide)).trans l2, fun he => (o5 10 (by decide)).trans (l3 he), ⟨lp, (o5 9 (by decide)).trans l4, (o5 8 (by decide)).trans l5, l6, l7⟩, ⟨ln, (o5 6 (by decide)).trans l8, l9⟩, l10⟩
theorem rq_165 (hM' : mj_Rt mm_R Rf) (h : RR H (K, P, E, N, S, M, C, O, L) J) (hkd : ∀ l, l < S.2.2.1 → S.2.1 l ≤ 1) (hb : b ≤ 1) (hQ1 : (1 ≤ S.2.2.1 ∧ S.2.1 (S.2.2.1 - 1) = b) → ∀ J' : Nat → Nat → Int32, (∀ s', RR H (K, P, E, N, clS S s', M, C, O, L) J') → Q (.inl none) (sh59, J', Lg, Rf, nc, ns)) (hQ2 : ¬ (1 ≤ S.2.2.1 ∧ S.2.1 (S.2.2.1 - 1) = b) → ∀ J', RD H (K, P, E, N, S, M, C, O, L) J' → Q (.inl none) (sh59, J', Lg, Rf, nc, ns)) : mj_call X mj_P (mj_bi X) (d + 2) 165 [.ref 36, .int (nI (1 - b))] (sh59, J, Lg, Rf, nc, ns) Q := by
  have h' := h
  obtain ⟨hK, hP, hE, hN, hS, hM, hC, hO, hL, hZ⟩ := rr_d h
  have b01 : b = 0 ∨ b = 1 := by omega
  have br : ∀ g, S.2.2.1 = g + 1 → (J (36 + 8) S.2.2.1 = nI (1 - b) ↔ S.2.1 g = b) := by
    intro g hg
    have e1 : J 44 (g + 1) = if S.2.1 g = 0 then 1 else 0 := hS.2.1 g (by omega)
    have e2 := hkd g (by omega)
    rw [hg, show J (36 + 8) (g + 1) = J 44 (g + 1) from rfl, e1]
    have g01 : S.2.1 g = 0 ∨ S.2.1 g = 1 := by omega
    rcases b01 with rfl | rfl <;> rcases g01 with e | e <;> rw [e] <;> decide
  refine r_165 (mm_W hM') hS.1 hS.2.2.2.2 hK.2.2.2 (fun g hg hk => ?_) (fun hh => ?_)
  · have hs := (br g hg).mp hk
    refine hQ1 ⟨by omega, by rw [hg, Nat.add_sub_cancel]; exact hs⟩ _ (fun s' => ?_)
    have hl1 : S.2.2.1 - 1 = g := by omega
    have le : ∀ l, l ≤ S.2.2.1 - 1 → l ≤ S.2.2.1 := fun l hl => by omega
    have hZ1 : ∀ c, (c < 36 ∨ (48 ≤ c ∧ c ≤ 51) ∨ c = 54 ∨ c = 55) → mj_up J 36 17 (nI g) c = H c := fun c hc => by rw [mj_up_off (by omega)]; exact hZ c hc
    refine ⟨hK, hP, hE, hN, ⟨?_, fun l hl => hS.2.1 l (Nat.lt_of_lt_of_le hl (Nat.sub_le _ _)), fun l c hl hc => hS.2.2.1 l c (le l hl) hc, fun l i hl hi => hS.2.2.2.1 l i (le l hl) hi, by show S.2.2.1 - 1 ≤ 100; have := hS.2.2.2.2; omega⟩, hM, hC, hO, hL, hZ1⟩
    show nI g = nI (S.2.2.1 - 1)
    rw [hl1]
  · refine hQ2 (fun hq => ?_) _ (rr_f (f := 13) (by decide) (by decide) h')
    rcases hh with e | e
    · omega
    · exact e ((br (S.2.2.1 - 1) (by omega)).mpr hq.2)
end MJGR
