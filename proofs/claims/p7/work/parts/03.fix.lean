/-! MINI MACHINE: the fixed point, and calls -/
section MJFX
variable {X : mj_X} {hd : mj_H} {cl : mj_C} {T : List mj_B}
theorem mj_rb_ex {Z : Type} {P : Z → Prop} (hm : mj_Mono cl) (he : mj_Ex cl) {nx nx' : mj_N} {Q : mj_Q} {Q' : Z → mj_Q} (hn : ∀ pc lv st S, nx pc lv st S Q → ∃ z, nx' pc lv st S (Q' z) ∧ P z) (hQ : ∀ o S, Q o S → ∃ z, Q' z o S ∧ P z) (e : Nat) :
    ∀ (is : List mj_I) (lv : mj_LV) (st : List Value) (S : mj_S), mj_rb X hd cl nx Q e is lv st S → ∃ z, mj_rb X hd cl nx' (Q' z) e is lv st S ∧ P z
  | [], _, _, _, h => hn _ _ _ _ h
  | x :: is, lv, st, S, h => mj_in_ex (K' := fun z => mj_rb X hd cl nx' (Q' z) e is) hm he hn hQ (mj_rb_ex hm he hn hQ e is) x lv st S h
theorem mj_at_ex {Z : Type} {P : Z → Prop} (hm : mj_Mono cl) (he : mj_Ex cl) {nx nx' : mj_N} {Q : mj_Q} {Q' : Z → mj_Q} (hn : ∀ pc lv st S, nx pc lv st S Q → ∃ z, nx' pc lv st S (Q' z) ∧ P z) (hQ : ∀ o S, Q o S → ∃ z, Q' z o S ∧ P z) {pc : Nat} {lv : mj_LV} {st : List Value} {S : mj_S} (h : mj_at X hd cl T nx pc lv st S Q) : ∃ z, mj_at X hd cl T nx' pc lv st S (Q' z) ∧ P z := by
  unfold mj_at at h ⊢
  exact mj_so_ex (g := fun z (b : mj_B) => mj_rb X hd cl nx' (Q' z) b.2.2.2 b.2.2.1 (mj_mk b.2.1 lv) st S) (fun b q => mj_rb_ex hm he hn hQ b.2.2.2 b.2.2.1 _ _ _ q) h
/-- the fixed point, unfolded once -/
theorem mj_rn_in (hm : mj_Mono cl) (he : mj_Ex cl) {pc : Nat} {lv : mj_LV} {st : List Value} {S : mj_S} {Q : mj_Q} (h : mj_at X hd cl T (mj_rn X hd cl T) pc lv st S Q) : mj_rn X hd cl T pc lv st S Q := by
  intro P hP
  refine hP _ _ _ _ _ ?_
  obtain ⟨-, w, -⟩ := mj_at_ex (Z := Unit) (P := fun _ => True) (nx' := P) (Q' := fun _ => Q) hm he (fun pc lv st S q => ⟨(), q P hP, trivial⟩) (fun _ _ q => ⟨(), q, trivial⟩) h
  exact w
theorem mj_rn_ex (hm : mj_Mono cl) (he : mj_Ex cl) {pc : Nat} {lv : mj_LV} {st : List Value} {S : mj_S} {Q : mj_Q} (h : mj_rn X hd cl T pc lv st S Q) : ∃ (o : mj_O) (S' : mj_S), mj_rn X hd cl T pc lv st S (fun a b => a = o ∧ b = S') ∧ Q o S' := by
  refine h (fun pc lv st S Q => ∃ (o : mj_O) (S' : mj_S), mj_rn X hd cl T pc lv st S (fun a b => a = o ∧ b = S') ∧ Q o S') ?_
  intro pc lv st S Q q
  obtain ⟨⟨o, S'⟩, w1, w2⟩ := mj_at_ex (Z := mj_O × mj_S) (P := fun z => Q z.1 z.2) (nx' := mj_rn X hd cl T) (Q' := fun z a b => a = z.1 ∧ b = z.2) hm he (fun pc lv st S q => by obtain ⟨o, S', q1, q2⟩ := q; exact ⟨(o, S'), q1, q2⟩) (fun o S q => ⟨(o, S), ⟨rfl, rfl⟩, q⟩) q
  exact ⟨o, S', mj_rn_in hm he w1, w2⟩
theorem mj_rn_mono (hm : mj_Mono cl) (he : mj_Ex cl) {pc : Nat} {lv : mj_LV} {st : List Value} {S : mj_S} {Q Q' : mj_Q} (hQ : ∀ o S, Q o S → Q' o S) (h : mj_rn X hd cl T pc lv st S Q) : mj_rn X hd cl T pc lv st S Q' := by
  refine h (fun pc lv st S Q => ∀ Q' : mj_Q, (∀ o S, Q o S → Q' o S) → mj_rn X hd cl T pc lv st S Q') ?_ Q' hQ
  intro pc lv st S Q q Q' hQ
  obtain ⟨-, w, -⟩ := mj_at_ex (Z := Unit) (P := fun _ => True) (nx' := mj_rn X hd cl T) (Q' := fun _ => Q') hm he (fun pc lv st S q => ⟨(), q Q' hQ, trivial⟩) (fun _ _ q => ⟨(), hQ _ _ q, trivial⟩) q
  exact mj_rn_in hm he w
end MJFX
section MJCL
variable {X : mj_X} {P : List mj_M} {bi : mj_C}
theorem mj_call_ok (hm : mj_Mono bi) (he : mj_Ex bi) : ∀ d : Nat, mj_Mono (mj_call X P bi d) ∧ mj_Ex (mj_call X P bi d)
  | 0 => ⟨fun _ _ _ _ _ _ h => h.elim, fun _ _ _ _ h => h.elim⟩
  | d + 1 => by
    obtain ⟨hm1, he1⟩ := mj_call_ok hm he d
    refine ⟨fun M as S Q Q' hQ h => ?_, fun M as S Q h => ?_⟩
    · unfold mj_call at h ⊢
      by_cases hM : 900 ≤ M
      · rw [if_pos hM] at h ⊢
        exact hm M as S Q Q' hQ h
      · rw [if_neg hM] at h ⊢
        obtain ⟨-, w, -⟩ := mj_so_ex (Z := Unit) (P := fun _ => True) (g := fun _ (z : mj_M) => mj_tt (mj_rn X (mj_hd z.2.1) (mj_call X P bi d) z.2.2 0 (mj_en as ++ List.replicate (z.1 - (mj_en as).length) none) [] S Q') (Nat.ble (mj_en as).length z.1)) (fun z => mj_tt_ex fun q => ⟨(), mj_rn_mono hm1 he1 hQ q, trivial⟩) h
        exact w
    · unfold mj_call at h
      by_cases hM : 900 ≤ M
      · rw [if_pos hM] at h
        obtain ⟨o, S', h1, h2⟩ := he M as S Q h
        exact ⟨o, S', by unfold mj_call; rw [if_pos hM]; exact h1, h2⟩
      · rw [if_neg hM] at h
        obtain ⟨⟨o, S'⟩, h1, h2⟩ := mj_so_ex (Z := mj_O × mj_S) (P := fun z => Q z.1 z.2) (g := fun w (z : mj_M) => mj_tt (mj_rn X (mj_hd z.2.1) (mj_call X P bi d) z.2.2 0 (mj_en as ++ List.replicate (z.1 - (mj_en as).length) none) [] S (fun a b => a = w.1 ∧ b = w.2)) (Nat.ble (mj_en as).length z.1)) (fun z => mj_tt_ex fun q => by obtain ⟨o, S', q1, q2⟩ := mj_rn_ex hm1 he1 q; exact ⟨(o, S'), q1, q2⟩) h
        exact ⟨o, S', by unfold mj_call; rw [if_neg hM]; exact h1, h2⟩
end MJCL
