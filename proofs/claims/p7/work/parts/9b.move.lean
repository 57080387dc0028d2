/-! MOVES OF THE REFERENCE from block to block, with what its argument rows hold -/
theorem mj_rn_out {X : mj_X} {hd : mj_H} {cl : mj_C} {T : List mj_B} (hm : mj_Mono cl) (he : mj_Ex cl) {pc : Nat} {lv : mj_LV} {st : List Value} {S : mj_S} {Q : mj_Q} (h : mj_rn X hd cl T pc lv st S Q) : mj_at X hd cl T (mj_rn X hd cl T) pc lv st S Q := by
  refine h (fun pc lv st S Q => mj_at X hd cl T (mj_rn X hd cl T) pc lv st S Q) ?_
  intro pc lv st S Q q
  obtain ⟨-, w, -⟩ := mj_at_ex (Z := Unit) (P := fun _ => True) (nx' := mj_rn X hd cl T) (Q' := fun _ => Q) hm he (fun pc lv st S q => ⟨(), mj_rn_in hm he q, trivial⟩) (fun _ _ q => ⟨(), q, trivial⟩) q
  exact w
/-- locals that are not read are of no account -/
theorem mj_nv {X : mj_X} {hd : mj_H} {T : List mj_B} {d pc : Nat} {lv lv' : mj_LV} {st : List Value} {S : mj_S} {Q : mj_Q} (h : mj_rn X hd (mj_call X mj_P (mj_bi X) d) T pc lv' st S Q) (he : (mj_bk T pc).map (fun b => mj_mk b.2.1 lv) = (mj_bk T pc).map (fun b => mj_mk b.2.1 lv') := by rfl) : mj_rn X hd (mj_call X mj_P (mj_bi X) d) T pc lv st S Q := by
  have ok := mj_call_ok (X := X) (P := mj_P) (mj_bi_mono X) (mj_bi_one X) d
  have h2 := mj_rn_out ok.1 ok.2 h
  refine mj_rn_in ok.1 ok.2 ?_
  unfold mj_at at h2 ⊢
  revert he h2
  cases mj_bk T pc with
  | none => exact fun _ h2 => h2
  | some b =>
    intro he h2
    have e : mj_mk b.2.1 lv = mj_mk b.2.1 lv' := Option.some.inj he
    show mj_rb _ _ _ _ _ _ _ (mj_mk b.2.1 lv) _ _
    rw [e]
    exact h2
section MJMV
variable {X : mj_X} {Rf : Nat → Nat → Option Nat} {T : List mj_B} {k : Nat} {pc pc' pc'' : Nat} {lv lv' lv'' : mj_LV} {st st' st'' : List Value} {g g' g'' : sg} {A B C : (Nat → Nat → Int32) → Prop} {o : Option Value}
def RM (X : mj_X) (Rf : Nat → Nat → Option Nat) (T : List mj_B) (k pc : Nat) (lv : mj_LV) (st : List Value) (g : sg) (A : (Nat → Nat → Int32) → Prop) (pc' : Nat) (lv' : mj_LV) (st' : List Value) (g' : sg) (B : (Nat → Nat → Int32) → Prop) : Prop := ∀ (H : Nat → Nat → Int32) (Lg : Nat → Nat → Int64) (d nc ns : Nat) (J : Nat → Nat → Int32) (Q : mj_Q), RR H g J → A H → (∀ H' J', hx H H' → RR H' g' J' → B H' → mj_rn X (mj_hd []) (mj_call X mj_P (mj_bi X) (d + k)) T pc' lv' st' (sh59, J', Lg, Rf, nc, ns) Q) → mj_rn X (mj_hd []) (mj_call X mj_P (mj_bi X) (d + k)) T pc lv st (sh59, J, Lg, Rf, nc, ns) Q
def RMe (X : mj_X) (Rf : Nat → Nat → Option Nat) (T : List mj_B) (k pc : Nat) (lv : mj_LV) (st : List Value) (g : sg) (A : (Nat → Nat → Int32) → Prop) (o : Option Value) (g' : sg) (B : (Nat → Nat → Int32) → Prop) : Prop := ∀ (H : Nat → Nat → Int32) (Lg : Nat → Nat → Int64) (d nc ns : Nat) (J : Nat → Nat → Int32) (Q : mj_Q), RR H g J → A H → (∀ H' J', hx H H' → RR H' g' J' → B H' → Q (.inl o) (sh59, J', Lg, Rf, nc, ns)) → mj_rn X (mj_hd []) (mj_call X mj_P (mj_bi X) (d + k)) T pc lv st (sh59, J, Lg, Rf, nc, ns) Q
def RMf (X : mj_X) (Rf : Nat → Nat → Option Nat) (T : List mj_B) (k pc : Nat) (lv : mj_LV) (st : List Value) (g : sg) (A : (Nat → Nat → Int32) → Prop) (o : Option Value) (g' : sg) : Prop := ∀ (H : Nat → Nat → Int32) (Lg : Nat → Nat → Int64) (d nc ns : Nat) (J : Nat → Nat → Int32) (Q : mj_Q), RR H g J → A H → (∀ J', RD H g' J' → Q (.inl o) (sh59, J', Lg, Rf, nc, ns)) → mj_rn X (mj_hd []) (mj_call X mj_P (mj_bi X) (d + k)) T pc lv st (sh59, J, Lg, Rf, nc, ns) Q
/-- the same of a whole call -/
def RX (X : mj_X) (Rf : Nat → Nat → Option Nat) (k M : Nat) (as : List Value) (g : sg) (A : (Nat → Nat → Int32) → Prop) (o : Option Value) (g' : sg) (B : (Nat → Nat → Int32) → Prop) : Prop := ∀ (H : Nat → Nat → Int32) (Lg : Nat → Nat → Int64) (d nc ns : Nat) (J : Nat → Nat → Int32) (Q : mj_Q), RR H g J → A H → (∀ H' J', hx H H' → RR H' g' J' → B H' → Q (.inl o) (sh59, J', Lg, Rf, nc, ns)) → mj_call X mj_P (mj_bi X) (d + k) M as (sh59, J, Lg, Rf, nc, ns) Q
def RY (X : mj_X) (Rf : Nat → Nat → Option Nat) (k M : Nat) (as : List Value) (g : sg) (A : (Nat → Nat → Int32) → Prop) (o : Option Value) (g' : sg) : Prop := ∀ (H : Nat → Nat → Int32) (Lg : Nat → Nat → Int64) (d nc ns : Nat) (J : Nat → Nat → Int32) (Q : mj_Q), RR H g J → A H → (∀ J', RD H g' J' → Q (.inl o) (sh59, J', Lg, Rf, nc, ns)) → mj_call X mj_P (mj_bi X) (d + k) M as (sh59, J, Lg, Rf, nc, ns) Q
/-- nothing is said of the argument rows -/
def na (_ : Nat → Nat → Int32) : Prop := True
theorem rm_rf : RM X Rf T k pc lv st g A pc lv st g A := fun H Lg d nc ns J Q hJ hA hq => hq H J hx_rf hJ hA
theorem rm_tr (h : RM X Rf T k pc lv st g A pc' lv' st' g' B) (h' : RM X Rf T k pc' lv' st' g' B pc'' lv'' st'' g'' C) : RM X Rf T k pc lv st g A pc'' lv'' st'' g'' C := fun H Lg d nc ns J Q hJ hA hq => h H Lg d nc ns J Q hJ hA (fun H' J' x1 j1 b1 => h' H' Lg d nc ns J' Q j1 b1 (fun H'' J'' x2 j2 c2 => hq H'' J'' (hx_tr x1 x2) j2 c2))
theorem rm_e (h : RM X Rf T k pc lv st g A pc' lv' st' g' B) (h' : RMe X Rf T k pc' lv' st' g' B o g'' C) : RMe X Rf T k pc lv st g A o g'' C := fun H Lg d nc ns J Q hJ hA hq => h H Lg d nc ns J Q hJ hA (fun H' J' x1 j1 b1 => h' H' Lg d nc ns J' Q j1 b1 (fun H'' J'' x2 j2 c2 => hq H'' J'' (hx_tr x1 x2) j2 c2))
theorem rm_f (h : RM X Rf T k pc lv st g A pc' lv' st' g' B) (h' : RMf X Rf T k pc' lv' st' g' B o g'') : RMf X Rf T k pc lv st g A o g'' := fun H Lg d nc ns J Q hJ hA hq => h H Lg d nc ns J Q hJ hA (fun H' J' x1 j1 b1 => h' H' Lg d nc ns J' Q j1 b1 (fun J'' j2 => hq J'' (rd_hx j2 x1)))
theorem rx_in {M z : Nat} {as : List Value} (hM : M < 900) (hP : mj_P[M]? = some (z, [], T)) (hl : Nat.ble (mj_en as).length z = true) (hlv : mj_en as ++ List.replicate (z - (mj_en as).length) none = lv) (h : RMe X Rf T k 0 lv [] g A o g' B) : RX X Rf (k + 1) M as g A o g' B := fun H Lg d nc ns J Q hJ hA hq => mj_enter (d := d + k) (z := (z, [], T)) hM hP hl (by subst hlv; exact h H Lg d nc ns J Q hJ hA hq)
theorem ry_in {M z : Nat} {as : List Value} (hM : M < 900) (hP : mj_P[M]? = some (z, [], T)) (hl : Nat.ble (mj_en as).length z = true) (hlv : mj_en as ++ List.replicate (z - (mj_en as).length) none = lv) (h : RMf X Rf T k 0 lv [] g A o g') : RY X Rf (k + 1) M as g A o g' := fun H Lg d nc ns J Q hJ hA hq => mj_enter (d := d + k) (z := (z, [], T)) hM hP hl (by subst hlv; exact h H Lg d nc ns J Q hJ hA hq)
theorem rx_rs {M : Nat} {as : List Value} (h : RS X Rf k M as g o g') : RX X Rf k M as g A o g' A := fun H Lg d nc ns J Q hJ hA hq => h H Lg d nc ns J Q hJ (fun J' hJ' => hq H J' hx_rf hJ' hA)
theorem ry_rf {M : Nat} {as : List Value} (h : RF X Rf k M as g o g') : RY X Rf k M as g A o g' := fun H Lg d nc ns J Q hJ _ hq => h H Lg d nc ns J Q hJ hq
theorem rx_k {M : Nat} {as : List Value} (j : Nat) (h : RX X Rf k M as g A o g' B) (hj : k ≤ j) : RX X Rf j M as g A o g' B := fun H Lg d nc ns J Q hJ hA hq => by
  obtain ⟨i, rfl⟩ : ∃ i, j = k + i := ⟨j - k, by omega⟩
  have := h H Lg (d + i) nc ns J Q hJ hA hq
  rwa [show d + i + k = d + (k + i) by omega] at this
theorem ry_k {M : Nat} {as : List Value} (j : Nat) (h : RY X Rf k M as g A o g') (hj : k ≤ j) : RY X Rf j M as g A o g' := fun H Lg d nc ns J Q hJ hA hq => by
  obtain ⟨i, rfl⟩ : ∃ i, j = k + i := ⟨j - k, by omega⟩
  have := h H Lg (d + i) nc ns J Q hJ hA hq
  rwa [show d + i + k = d + (k + i) by omega] at this
theorem rx_na {M : Nat} {as : List Value} (h : RX X Rf k M as g A o g' B) : RX X Rf k M as g A o g' na := fun H Lg d nc ns J Q hJ hA hq => h H Lg d nc ns J Q hJ hA (fun H' J' a b _ => hq H' J' a b trivial)
/-- a write to the reference's rows behind a fault -/
theorem rd_upc {H J : Nat → Nat → Int32} {b q : Nat} {x : Int32} (h : RD H g J) (h1 : 37 ≤ b) (h2 : b ≠ 38 ∧ b ≠ 46) : RD H g (mj_up J b q x) := by
  obtain ⟨d1, ⟨f, f1, f2, f3⟩, d3, ⟨d4, lv, l1, l2⟩, d5⟩ := h
  refine ⟨?_, ⟨f, f1, f2, ?_⟩, ⟨?_, fun j hj => ?_⟩, ⟨fun c hc => ?_, lv, l1, by rw [mjs_up_c (by omega)]; exact l2⟩, fun c hc => ?_⟩
  · rw [mjs_up_c (by omega)]
    exact d1
  · rw [mjs_up_c (by omega)]
    exact f3
  · rw [mjs_up_c (by omega)]
    exact d3.1
  · rw [mjs_up_c (by omega)]
    exact d3.2 j hj
  · rw [mjs_up_c (by omega)]
    exact d4 c hc
  · rw [mj_up_off (by omega)]
    exact d5 c hc
end MJMV
