/-! EVERY METHOD'S CONTRACT, at every depth -/
theorem mj_bok_of {Ok : mj_I → Prop} {o n : Nat} {y : mj_D} (hOk : ∀ x, mj_ck o y x = true → mj_vx o n x = true → Ok x) : ∀ (is : List mj_I) (pc e : Nat), mj_bc o y pc is e = true → (is.all fun x => mj_vx o n x) = true → mj_bok Ok pc is e
  | [], pc, e, h, _ => by
    unfold mj_bc at h
    exact beq_iff_eq.mp h
  | x :: is, pc, e, h, h2 => by
    unfold mj_bc at h
    rw [Bool.and_eq_true, Bool.and_eq_true, beq_iff_eq] at h
    rw [List.all_cons, Bool.and_eq_true] at h2
    exact ⟨h.1.1, hOk x h.1.2 h2.1, mj_bok_of hOk is _ e h.2 h2.2⟩
theorem mj_hc_ok {o : Nat} {y : mj_D} {hs : List (Nat × Nat × Nat × Nat × Nat × Nat)} {c : Code} (h : mj_hc o y hs = true) (hext : c.exceptionTable.toList.map (fun h => (h.startPc, h.endPc, h.handlerPc, h.catchType)) = y.2.2.2.2) : mj_Hok mj_Wd2 (mj_nm o) y.2.1 c y.2.2.1 (mj_hd hs) := by
  unfold mj_hc at h
  rw [← hext] at h
  generalize hL : c.exceptionTable.toList = L at h
  intro pc
  match hs, L, h, hL with
  | [], [], _, hL =>
    intro x hx
    rw [hL] at hx
    cases hx
  | [(f, t, hp, k, i, h')], [x], h, hL =>
    simp only [List.map_cons, List.map_nil, Bool.and_eq_true, beq_iff_eq, bne_iff_ne, decide_eq_true_eq] at h
    obtain ⟨⟨⟨⟨⟨⟨⟨⟨h1, h2⟩, h3⟩, h4⟩, h5⟩, h6⟩, h7⟩, h8⟩, h9⟩ := h
    by_cases hc : f ≤ pc ∧ pc < t
    · have e : mj_hd [(f, t, hp, k, i, h')] pc = some (k, i, h') := by
        unfold mj_hd
        rw [if_pos hc]
      rw [e]
      refine ⟨x, hL, ?_, h4, Or.inl ⟨h5, rfl⟩, by simpa using h6, Or.inl ⟨3, h8, h7.symm, h9⟩⟩
      show (decide (x.startPc ≤ pc) && decide (pc < x.endPc)) = true
      rw [← h1, ← h2, Bool.and_eq_true, decide_eq_true_eq, decide_eq_true_eq]
      exact hc
    · have e : mj_hd [(f, t, hp, k, i, h')] pc = none := by
        unfold mj_hd
        rw [if_neg hc]
        rfl
      rw [e]
      intro z hz
      rw [hL] at hz
      cases List.mem_singleton.mp hz
      show (decide (x.startPc ≤ pc) && decide (pc < x.endPc)) = false
      rw [← h1, ← h2, Bool.and_eq_false_iff, decide_eq_false_iff_not, decide_eq_false_iff_not]
      omega
  | [], x :: L, h, _ => simp at h
  | [a], [], h, _ => simp at h
  | [a], x :: z :: L, h, _ => simp at h
  | a :: b :: hs, L, h, _ => simp at h
theorem mj_PDlen : mj_P.length = mj_PD.length := by decide +kernel
theorem mj_law_at : (mj_PD[196]?).map (fun y => y.1) = some ⟨"MacroPressLaw", "law", "([I)Z"⟩ := by decide +kernel
theorem mj_hmh (n : Nat) (y : mj_D) (h : mj_PD[n]? = some y) : mj_mhc n = true ∨ y.1 = ⟨"MacroPressLaw", "law", "([I)Z"⟩ := by
  have hl : n < mj_PD.length := (List.getElem?_eq_some_iff.mp h).1
  rw [← mj_PDlen] at hl
  obtain ⟨z, hz⟩ : ∃ z, mj_P[n]? = some z := ⟨_, List.getElem?_eq_getElem hl⟩
  have hma := (mj_chk hz).2
  unfold mj_ma at hma
  rw [hz, h] at hma
  simp only [Bool.and_eq_true, Bool.or_eq_true, beq_iff_eq] at hma
  rcases hma.1.1.1 with rfl | q
  · have := mj_law_at
    rw [h] at this
    exact Or.inr (Option.some.inj this)
  · exact Or.inl q
theorem mj_bi_of {X : mj_X} {d M : Nat} {as : List Value} {S : mj_S} {Q : mj_Q} (hM : 900 ≤ M) (h : mj_call X mj_P (mj_bi X) d M as S Q) : mj_bi X M as S Q := by
  cases d with
  | zero => exact h.elim
  | succ d =>
    unfold mj_call at h
    rw [if_pos hM] at h
    exact h
section MJCA
variable {l : Launch} {s0 : State} {A : Array Value} {D : va_G} {ka : Nat → ClassId} {a0 : Nat → Nat} {X : mj_X}
theorem mj_Gr_of (hg : mj_Beg l s0 A D ka a0 X) {s : State} (hC : mj_Cst s0 s) {meth : Method} {d : Nat} {S : mj_S} {ad : Nat → Nat} {nm : String} (had : ∀ i, 900000 ≤ i → ad i = a0 i) (hnm : meth.name = nm) : mj_Gr (mj_rm X d S) s meth s0.heap.size S ad X (nm = "<init>") := by
  obtain ⟨hfl, htb, hK0, hlit, hscr, hcst, hnum, hls, hthr, hnest⟩ := hg
  have e0 : ad 900000 = a0 900000 := had _ (Nat.le_refl _)
  refine ⟨fun q => hnm.trans q, hC.2.1, ⟨?_, ?_⟩, hnum, ⟨?_, ?_⟩, ?_, ?_, ?_⟩
  · show X.2.2.1 ≤ S.2.2.2.2.1 + (X.2.2.1 - S.2.2.2.2.1)
    omega
  · show X.2.2.2 ≤ S.2.2.2.2.2 + (X.2.2.2 - S.2.2.2.2.2)
    omega
  · show 8 ≤ d + 8
    omega
  · exact Nat.le_add_left 300 (40 * d)
  · rw [e0]
    exact (va_X.moved hC.1.alike hscr.1).kept (hC.2.2 _ hscr.2)
  · rw [e0]
    exact Nat.lt_of_lt_of_le hscr.2 hC.2.1
  · rw [e0]
    exact Nat.not_le.mpr hscr.2
theorem mj_con_all (hg : mj_Beg l s0 A D ka a0 X) : ∀ (d M : Nat) (y : mj_D) (as : List Value) (S : mj_S) (Q : mj_Q), M < 900 → mj_PD[M]? = some y → mj_call X mj_P (mj_bi X) d M as S Q → mj_Con l s0 D mj_cl mj_ft ka a0 X d y as S Q
  | 0, _, _, _, _, _, _, _, h => h.elim
  | d + 1, M, y, as, S, Q, hM, hy, h => by
    unfold mj_call at h
    rw [if_neg (Nat.not_le.mpr hM)] at h
    obtain ⟨z, hz, h⟩ := mj_so_sp h
    obtain ⟨hble, hrn⟩ := mj_tt_sp h
    intro ad had hwS hwT
    obtain ⟨hmc, hma⟩ := mj_chk hz
    generalize mj_ow.getD M 0 = o at hmc hma
    unfold mj_mc at hmc
    rw [hz, hy] at hmc
    simp only [Bool.and_eq_true, beq_iff_eq] at hmc
    obtain ⟨⟨e1, e2⟩, hbc⟩ := hmc
    unfold mj_ma at hma
    rw [hz, hy] at hma
    simp only [Bool.and_eq_true] at hma
    obtain ⟨⟨⟨-, hhc⟩, hpl⟩, hvx⟩ := hma
    refine mj_con_body (d := d + 1) (k := z.1 - (mj_en as).length) hpl hwS hwT (by rw [← e1]; exact Nat.le_of_ble_eq_true hble) hrn ?_
    intro p e s m args below meth c hE b hb
    obtain ⟨hx, hbt, hml, hown, hlk, hrt, hC, hnm, hext⟩ := hE
    have hnum := hg.2.2.2.2.2.2.1
    have hB : mj_Cal p l (mj_rm X (d + 1) S) s s0 m args meth c D ka S ad a0 y.2.1 y.2.2.1 (y.1.name = "<init>") X (mj_hd z.2.1) (mj_call X mj_P (mj_bi X) d) o d :=
      ⟨hx, hbt, hml, by rw [← e2]; exact hown, hlk, fun w hw => mj_keepG hC (mj_Wd2_good hw) (mj_Wd2_at hg.2.1 hw), fun k cN _ => va_asg _ _, mj_hc_ok hhc hext, mj_Gr_of hg hC had hnm, hC, had, fun M y as S Q hM hy h => mj_con_all hg d M y as S Q hM hy h, by show d + 9 ≤ d + 1 + 8; omega, by show 40 * d + 340 ≤ 40 * (d + 1) + 300; rw [Nat.mul_succ, Nat.add_assoc]; exact Nat.le_refl _, ⟨rfl, rfl⟩, ⟨by rw [hnum.1]; exact hwS.1.2.2.1, by rw [hnum.2]; exact hwS.1.2.2.2⟩, hg.2.2.1.moved hC.1.alike, mj_hmh⟩
    exact mj_bok_of (fun x h1 h2 => mj_ins hg hB hrt (fun M as S Q hM h => mj_bi_of hM h) hy (fun he => by rw [he] at hext; exact List.map_eq_nil_iff.mp hext) h1 h2) b.2.2.1 b.1 b.2.2.2 (List.all_eq_true.mp hbc b hb) (List.all_eq_true.mp hvx b hb)
end MJCA
