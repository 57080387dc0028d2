/-! MINI MACHINE: every reading ends in one way; what it says may be weakened -/
def mj_Mono (cl : mj_C) : Prop := ∀ (M : Nat) (as : List Value) (S : mj_S) (Q Q' : mj_Q), (∀ o S', Q o S' → Q' o S') → cl M as S Q → cl M as S Q'
def mj_Ex (cl : mj_C) : Prop := ∀ (M : Nat) (as : List Value) (S : mj_S) (Q : mj_Q), cl M as S Q → ∃ (o : mj_O) (S' : mj_S), cl M as S (fun a b => a = o ∧ b = S') ∧ Q o S'
section MJEX
variable {Z : Type} {P : Z → Prop}
theorem mj_pI_ex {f : Int32 → List Value → Prop} {g : Z → Int32 → List Value → Prop} (h : ∀ x r, f x r → ∃ z, g z x r ∧ P z) : ∀ {st : List Value}, mj_pI f st → ∃ z, mj_pI (g z) st ∧ P z
  | .int x :: r, q => h x r q
theorem mj_pL_ex {f : Int64 → List Value → Prop} {g : Z → Int64 → List Value → Prop} (h : ∀ x r, f x r → ∃ z, g z x r ∧ P z) : ∀ {st : List Value}, mj_pL f st → ∃ z, mj_pL (g z) st ∧ P z
  | .long x :: r, q => h x r q
theorem mj_pR_ex {f : Nat → List Value → Prop} {g : Z → Nat → List Value → Prop} (h : ∀ x r, f x r → ∃ z, g z x r ∧ P z) : ∀ {st : List Value}, mj_pR f st → ∃ z, mj_pR (g z) st ∧ P z
  | .ref x :: r, q => h x r q
theorem mj_pV_ex {f : Value → List Value → Prop} {g : Z → Value → List Value → Prop} (h : ∀ x r, f x r → ∃ z, g z x r ∧ P z) : ∀ {st : List Value}, mj_pV f st → ∃ z, mj_pV (g z) st ∧ P z
  | v :: r, q => (h v r q.2).imp fun _ w => ⟨⟨q.1, w.1⟩, w.2⟩
theorem mj_p0_ex {f : Prop} {g : Z → Prop} (h : f → ∃ z, g z ∧ P z) : ∀ {st : List Value}, mj_p0 f st → ∃ z, mj_p0 (g z) st ∧ P z
  | [], q => h q
theorem mj_gI_ex {f : Int32 → Prop} {g : Z → Int32 → Prop} (h : ∀ x, f x → ∃ z, g z x ∧ P z) : ∀ {v : Option Value}, mj_gI f v → ∃ z, mj_gI (g z) v ∧ P z
  | some (.int x), q => h x q
theorem mj_gL_ex {f : Int64 → Prop} {g : Z → Int64 → Prop} (h : ∀ x, f x → ∃ z, g z x ∧ P z) : ∀ {v : Option Value}, mj_gL f v → ∃ z, mj_gL (g z) v ∧ P z
  | some (.long x), q => h x q
theorem mj_gA_ex {f : Value → Prop} {g : Z → Value → Prop} (h : ∀ x, f x → ∃ z, g z x ∧ P z) : ∀ {v : Option Value}, mj_gA f v → ∃ z, mj_gA (g z) v ∧ P z
  | some (.ref x), q => h _ q
  | some .null, q => h _ q
theorem mj_tt_ex {f : Prop} {g : Z → Prop} (h : f → ∃ z, g z ∧ P z) : ∀ {b : Bool}, mj_tt f b → ∃ z, mj_tt (g z) b ∧ P z
  | true, q => h q
theorem mj_rc_ex {f : Prop} {g : Z → Prop} (h : f → ∃ z, g z ∧ P z) {sh : List (Nat × Nat)} {c : Nat} : ∀ {as : List Value}, mj_rc f sh c as → ∃ z, mj_rc (g z) sh c as ∧ P z
  | .ref _ :: _, q => mj_tt_ex h q
theorem mj_hr_ex {f : Prop} {g : Z → Prop} (h : f → ∃ z, g z ∧ P z) : ∀ {as : List Value}, mj_hr f as → ∃ z, mj_hr (g z) as ∧ P z
  | .ref _ :: _, q => h q
theorem mj_so_ex {α : Type} {f : α → Prop} {g : Z → α → Prop} (h : ∀ x, f x → ∃ z, g z x ∧ P z) : ∀ {b : Option α}, mj_so f b → ∃ z, mj_so (g z) b ∧ P z
  | some x, q => h x q
theorem mj_an_ex {c f : Prop} {g : Z → Prop} (h : f → ∃ z, g z ∧ P z) (q : c ∧ f) : ∃ z, (c ∧ g z) ∧ P z := (h q.2).imp fun _ w => ⟨⟨q.1, w.1⟩, w.2⟩
theorem mj_br_ex {c f1 f2 : Prop} {g1 g2 : Z → Prop} (h1 : f1 → ∃ z, g1 z ∧ P z) (h2 : f2 → ∃ z, g2 z ∧ P z) (q : mj_br c f1 f2) : ∃ z, mj_br c (g1 z) (g2 z) ∧ P z := by
  by_cases hc : c
  · obtain ⟨z, w1, w2⟩ := h1 (q.1 hc)
    exact ⟨z, ⟨fun _ => w1, fun n => absurd hc n⟩, w2⟩
  · obtain ⟨z, w1, w2⟩ := h2 (q.2 hc)
    exact ⟨z, ⟨fun n => absurd n hc, fun _ => w1⟩, w2⟩
theorem mj_sw_ex {nx : Nat → Prop} {nx' : Z → Nat → Prop} (h : ∀ t, nx t → ∃ z, nx' z t ∧ P z) (d : Nat) (x : Int32) : ∀ sw : List (Int32 × Nat), mj_sw nx d x sw → ∃ z, mj_sw (nx' z) d x sw ∧ P z
  | [], q => h _ q
  | (_, _) :: r, q => mj_br_ex (h _) (mj_sw_ex h d x r) q
theorem mj_new_ex {X : mj_X} {K : Nat → mj_S → Prop} {K' : Z → Nat → mj_S → Prop} (h : ∀ q S, K q S → ∃ z, K' z q S ∧ P z) {k n : Nat} {S : mj_S} (q : mj_new X K k n S) : ∃ z, mj_new X (K' z) k n S ∧ P z := mj_an_ex (h _ _) q
theorem mj_ald_ex {K : mj_K} {K' : Z → mj_K} (h : ∀ lv st S, K lv st S → ∃ z, K' z lv st S ∧ P z) {t : Nat} {lv : mj_LV} {st : List Value} {S : mj_S} (q : mj_ald K t lv st S) : ∃ z, mj_ald (K' z) t lv st S ∧ P z :=
  mj_pI_ex (fun _ _ => mj_pR_ex fun _ _ => mj_so_ex fun _ => mj_an_ex (h _ _ _)) q
theorem mj_ast_ex {K : mj_K} {K' : Z → mj_K} (h : ∀ lv st S, K lv st S → ∃ z, K' z lv st S ∧ P z) {nar : Int32 → Int32} {t : Nat} {lv : mj_LV} {st : List Value} {S : mj_S} (q : mj_ast K nar t lv st S) : ∃ z, mj_ast (K' z) nar t lv st S ∧ P z :=
  mj_pI_ex (fun _ _ => mj_pI_ex fun _ _ => mj_pR_ex fun _ _ => mj_so_ex fun _ => mj_an_ex (h _ _ _)) q
theorem mj_ret_ex {hd : mj_H} {nx nx' : mj_N} {Q : mj_Q} {Q' : Z → mj_Q} {K : mj_K} {K' : Z → mj_K} (hn : ∀ pc lv st S, nx pc lv st S Q → ∃ z, nx' pc lv st S (Q' z) ∧ P z) (hQ : ∀ o S, Q o S → ∃ z, Q' z o S ∧ P z) (hK : ∀ lv st S, K lv st S → ∃ z, K' z lv st S ∧ P z)
    {pc : Nat} {lv : mj_LV} {rest : List Value} : ∀ {o : mj_O} {S : mj_S}, mj_ret hd nx pc K lv rest Q o S → ∃ z, mj_ret hd nx' pc (K' z) lv rest (Q' z) o S ∧ P z
  | .inl none, S, q => hK _ _ _ q
  | .inl (some v), S, q => hK _ _ _ q
  | .inr x, S, q => by
    cases hx : hd pc with
    | none =>
      simp only [mj_ret, hx] at q ⊢
      exact hQ _ _ q
    | some z =>
      simp only [mj_ret, hx] at q ⊢
      exact mj_an_ex (hn _ _ _ _) q
theorem mj_cl_ex {cl : mj_C} (hm : mj_Mono cl) (he : mj_Ex cl) {M : Nat} {as : List Value} {S : mj_S} {R : mj_Q} {R' : Z → mj_Q} (h : ∀ o S', R o S' → ∃ z, R' z o S' ∧ P z) (q : cl M as S R) : ∃ z, cl M as S (R' z) ∧ P z := by
  obtain ⟨o, S', h1, h2⟩ := he M as S R q
  obtain ⟨z, w1, w2⟩ := h o S' h2
  exact ⟨z, hm M as S _ _ (fun a b e => by rw [e.1, e.2]; exact w1) h1, w2⟩
theorem mj_iv_ex {hd : mj_H} {cl : mj_C} (hm : mj_Mono cl) (he : mj_Ex cl) {nx nx' : mj_N} {Q : mj_Q} {Q' : Z → mj_Q} {K : mj_K} {K' : Z → mj_K} (hn : ∀ pc lv st S, nx pc lv st S Q → ∃ z, nx' pc lv st S (Q' z) ∧ P z) (hQ : ∀ o S, Q o S → ∃ z, Q' z o S ∧ P z) (hK : ∀ lv st S, K lv st S → ∃ z, K' z lv st S ∧ P z)
    {pc a n : Nat} {lv : mj_LV} {st : List Value} {S : mj_S} (h : mj_iv hd cl nx Q pc a n K lv st S) : ∃ z, mj_iv hd cl nx' (Q' z) pc a n (K' z) lv st S ∧ P z :=
  mj_so_ex (fun _ => mj_tt_ex (mj_cl_ex hm he (fun _ _ => mj_ret_ex hn hQ hK))) h
theorem mj_ir_ex {hd : mj_H} {cl : mj_C} (hm : mj_Mono cl) (he : mj_Ex cl) {nx nx' : mj_N} {Q : mj_Q} {Q' : Z → mj_Q} {K : mj_K} {K' : Z → mj_K} (hn : ∀ pc lv st S, nx pc lv st S Q → ∃ z, nx' pc lv st S (Q' z) ∧ P z) (hQ : ∀ o S, Q o S → ∃ z, Q' z o S ∧ P z) (hK : ∀ lv st S, K lv st S → ∃ z, K' z lv st S ∧ P z)
    {pc a n t : Nat} {lv : mj_LV} {st : List Value} {S : mj_S} (h : mj_ir hd cl nx Q pc a n t K lv st S) : ∃ z, mj_ir hd cl nx' (Q' z) pc a n t (K' z) lv st S ∧ P z :=
  mj_so_ex (fun _ => mj_tt_ex (mj_rc_ex (mj_cl_ex hm he (fun _ _ => mj_ret_ex hn hQ hK)))) h
theorem mj_ip_ex {hd : mj_H} {cl : mj_C} (hm : mj_Mono cl) (he : mj_Ex cl) {nx nx' : mj_N} {Q : mj_Q} {Q' : Z → mj_Q} {K : mj_K} {K' : Z → mj_K} (hn : ∀ pc lv st S, nx pc lv st S Q → ∃ z, nx' pc lv st S (Q' z) ∧ P z) (hQ : ∀ o S, Q o S → ∃ z, Q' z o S ∧ P z) (hK : ∀ lv st S, K lv st S → ∃ z, K' z lv st S ∧ P z)
    {pc a n : Nat} {lv : mj_LV} {st : List Value} {S : mj_S} (h : mj_ip hd cl nx Q pc a n K lv st S) : ∃ z, mj_ip hd cl nx' (Q' z) pc a n (K' z) lv st S ∧ P z :=
  mj_so_ex (fun _ => mj_tt_ex (mj_hr_ex (mj_cl_ex hm he (fun _ _ => mj_ret_ex hn hQ hK)))) h
set_option maxHeartbeats 4000000 in
theorem mj_in_ex {X : mj_X} {hd : mj_H} {cl : mj_C} (hm : mj_Mono cl) (he : mj_Ex cl) {nx nx' : mj_N} {Q : mj_Q} {Q' : Z → mj_Q} {K : mj_K} {K' : Z → mj_K} (hn : ∀ pc lv st S, nx pc lv st S Q → ∃ z, nx' pc lv st S (Q' z) ∧ P z) (hQ : ∀ o S, Q o S → ∃ z, Q' z o S ∧ P z) (hK : ∀ lv st S, K lv st S → ∃ z, K' z lv st S ∧ P z)
    (x : mj_I) (lv : mj_LV) (st : List Value) (S : mj_S) (h : mj_in X hd cl nx Q x K lv st S) : ∃ z, mj_in X hd cl nx' (Q' z) x (K' z) lv st S ∧ P z := by
  obtain ⟨pc, i, len, ⟨a, b, t⟩, k, kl, sw⟩ := x
  unfold mj_in at h ⊢
  cases i
  all_goals dsimp only at h ⊢
  all_goals try exact h.elim
  all_goals try exact hK _ _ _ h
  all_goals try exact hn _ _ _ _ h
  all_goals try exact mj_pI_ex (fun _ _ => hK _ _ _) h
  all_goals try exact mj_pI_ex (fun _ _ => mj_pI_ex fun _ _ => hK _ _ _) h
  all_goals try exact mj_pI_ex (fun _ _ => mj_pI_ex fun _ _ => mj_an_ex (hK _ _ _)) h
  all_goals try exact mj_pI_ex (fun _ _ => mj_pL_ex fun _ _ => hK _ _ _) h
  all_goals try exact mj_pL_ex (fun _ _ => hK _ _ _) h
  all_goals try exact mj_pL_ex (fun _ _ => mj_pL_ex fun _ _ => hK _ _ _) h
  all_goals try exact mj_pL_ex (fun _ _ => mj_pL_ex fun _ _ => mj_an_ex (hK _ _ _)) h
  all_goals try exact mj_pR_ex (fun _ _ => hK _ _ _) h
  all_goals try exact mj_pV_ex (fun _ _ => hK _ _ _) h
  all_goals try exact mj_gI_ex (fun _ => hK _ _ _) h
  all_goals try exact mj_gL_ex (fun _ => hK _ _ _) h
  all_goals try exact mj_gA_ex (fun _ => hK _ _ _) h
  all_goals try exact mj_ald_ex hK h
  all_goals try exact mj_ast_ex hK h
  all_goals try exact mj_pI_ex (fun _ _ => mj_pI_ex fun _ _ => mj_br_ex (hn _ _ _ _) (hK _ _ _)) h
  all_goals try exact mj_pI_ex (fun _ _ => mj_br_ex (hn _ _ _ _) (hK _ _ _)) h
  all_goals try exact mj_pI_ex (fun _ _ => mj_sw_ex (fun _ => hn _ _ _ _) _ _ _) h
  all_goals try exact mj_iv_ex hm he hn hQ hK h
  all_goals try exact mj_ir_ex hm he hn hQ hK h
  all_goals try exact mj_ip_ex hm he hn hQ hK h
  all_goals try exact mj_pR_ex (fun _ _ => mj_so_ex fun _ => hK _ _ _) h
  all_goals try exact mj_pI_ex (fun _ _ => mj_pR_ex fun _ _ => mj_so_ex fun _ => mj_an_ex (hK _ _ _)) h
  all_goals try exact mj_pL_ex (fun _ _ => mj_pI_ex fun _ _ => mj_pR_ex fun _ _ => mj_so_ex fun _ => mj_an_ex (hK _ _ _)) h
  all_goals try exact mj_p0_ex (hQ _ _) h
  all_goals try exact mj_pI_ex (fun _ _ => mj_an_ex (mj_new_ex fun _ _ => hK _ _ _)) h
  all_goals try (split at h)
  all_goals try exact hK _ _ _ h
  all_goals try exact mj_ald_ex hK h
  all_goals try exact mj_ast_ex hK h
  all_goals try exact mj_pI_ex (fun _ _ => mj_pR_ex fun _ _ => mj_an_ex (mj_an_ex (hK _ _ _))) h
  all_goals try exact mj_pR_ex (fun _ _ => mj_so_ex fun _ => hK _ _ _) h
  all_goals try exact mj_pR_ex (fun _ _ => mj_an_ex (hK _ _ _)) h
  all_goals try exact mj_pR_ex (fun _ _ => mj_tt_ex (hK _ _ _)) h
  all_goals try exact mj_pR_ex (fun _ _ => mj_tt_ex (mj_so_ex fun _ => hK _ _ _)) h
  all_goals try exact mj_pI_ex (fun _ _ => mj_pR_ex fun _ _ => mj_tt_ex (hK _ _ _)) h
  all_goals try exact mj_pR_ex (fun _ _ => mj_pR_ex fun _ _ => mj_tt_ex (hK _ _ _)) h
  all_goals try exact mj_pI_ex (fun _ _ => mj_pR_ex fun _ _ => mj_tt_ex (mj_an_ex (hK _ _ _))) h
  all_goals try exact mj_new_ex (fun _ _ => hK _ _ _) h
  all_goals try exact mj_p0_ex (mj_an_ex (hQ _ _)) h
  all_goals try exact mj_iv_ex hm he hn hQ hK h
  all_goals try exact mj_ir_ex hm he hn hQ hK h
  all_goals try exact mj_ip_ex hm he hn hQ hK h
  all_goals try exact mj_pR_ex (fun _ _ => mj_so_ex fun _ => hK _ _ _) h
  all_goals try exact mj_pR_ex (fun _ _ => hK _ _ _) h
  all_goals try exact mj_pR_ex (fun _ _ => mj_p0_ex (hK _ _ _)) h
  all_goals try exact mj_pI_ex (fun _ _ => mj_p0_ex (hQ _ _)) h
  all_goals try exact mj_pI_ex (fun _ _ => mj_p0_ex (mj_an_ex (hQ _ _))) h
end MJEX
