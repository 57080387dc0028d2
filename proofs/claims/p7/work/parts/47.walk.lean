/-! THE LAW'S WALK, out of the mini machine's (R_law to lw_At are the skeleton's) -/
def R_law : String := "MacroPressLaw"
def lw_P (b : Addr) (xs : List Int32) (args : Array Value) (s : State) : Prop := args = #[.ref b] ∧ s.IntsAt b xs ∧ xs.length ≤ 2048 ∧ (Jvm.Cond.and given_1 narrow_1).before args s = true
def lw_Q (_ : Array Value) (s : State) (o : Outcome) (t : State) : Prop := o = .returned (some (.int 1)) ∧ Framed s o t [] 601024 7293034
def lw_Z (below : List Frame) (a : Array Value) (s : State) : State → Prop := fun t => ∃ o, t.status = .running ∧ Ended t below o ∧ lw_Q a s o t
/-- what holds at the law's entry: the machine, the code, the tables' words (any of lw_tbl by 'hts w (by decide +kernel)'), the script of L ints xs at the cell b, what the Statement gives of the start (any of its parts by flat_of_before) -/
def lw_At (p : Program) (s : State) (m : MethodId) (meth : Method) (c : Code) (b L : Nat) (xs : Nat → Int32) : Prop :=
  p.tables.exec = Jvm.exec ∧ c.code = code ∧ meth.sig.returnType = ret ∧ c.maxLocals = 7 ∧ s.vm.findClass R_law = some m.cls ∧ (∀ w ∈ lw_tbl, w.before #[Value.ref b] s = true) ∧ va_X b L xs s s.heap ∧ b < s.heap.size ∧ meth.locks = false ∧ (Jvm.Cond.and given_1 narrow_1).before #[Value.ref b] s = true
def mj_S0 : mj_S := ([], fun _ _ => 0, fun _ _ => 0, fun _ _ => none, 0, 0)
theorem mj_wS0 : mj_wS mj_S0 := ⟨⟨Nat.le_of_ble_eq_true rfl, Nat.le_refl 0, Nat.zero_le _, Nat.zero_le _⟩, fun a j q h => by cases h⟩
section MJWALK
variable {p : Program} {l : Launch} {e : Env} {s : State} {m : MethodId} {A : Array Value} {below : List Frame} {meth : Method} {c : Code} {D : va_G} {ka : Nat → ClassId} {a0 : Nat → Nat}
theorem mj_walk {R : Room} {d M k : Nat} {X : mj_X} {y : mj_D} {z : mj_M} (hg : mj_Beg l s A D ka a0 X) (hz : mj_P[M]? = some z) (hy : mj_PD[M]? = some y) (hx : p.tables.exec = Jvm.exec) (hb : c.code = y.2.1) (hml : c.maxLocals = y.2.2.1) (hown : s.vm.findClass y.1.cls = some m.cls) (hlk : meth.locks = false) (hrt : meth.sig.returnType = y.2.2.2.1)
    (hext : c.exceptionTable.toList.map (fun h => (h.startPc, h.endPc, h.handlerPc, h.catchType)) = y.2.2.2.2) (hnm : y.1.name = "<init>" → meth.name = "<init>") (hf : d + 9 ≤ R.frames) (hlo : 40 * d + 340 ≤ R.locals) (hr8 : 8 ≤ R.frames ∧ 300 ≤ R.locals) (hRc : R.cells = X.2.2.1 ∧ R.slots = X.2.2.2) {as : List Value} (hwT : mj_wT 0 as) (hlen : (mj_en as).length ≤ y.2.2.1) {Q : mj_Q} {Z : State → Prop}
    (hQ : mj_Qok s below Z D mj_cl mj_ft ka s.heap.size mj_S0 a0 Q) (hX : mj_Xok s below Z D mj_cl mj_ft ka s.heap.size mj_S0 a0 Q)
    (hrn : mj_rn X (mj_hd z.2.1) (mj_call X mj_P (mj_bi X) d) z.2.2 0 (mj_en as ++ List.replicate k none) [] mj_S0 Q) :
    W p l e R s m A below meth c s.heap [] 0 0 Z (entryFrame m (as.map (mj_tr a0)).toArray y.2.2.1) := by
  have hC : mj_Cst s s := ⟨State.WarmedH.refl s, Nat.le_refl _, fun _ _ => rfl⟩
  obtain ⟨hmc, hma⟩ := mj_chk hz
  generalize mj_ow.getD M 0 = o at hmc hma
  unfold mj_mc at hmc
  rw [hz, hy] at hmc
  simp only [Bool.and_eq_true, beq_iff_eq] at hmc
  obtain ⟨⟨-, e2⟩, hbc⟩ := hmc
  unfold mj_ma at hma
  rw [hz, hy] at hma
  simp only [Bool.and_eq_true] at hma
  obtain ⟨⟨⟨-, hhc⟩, -⟩, hvx⟩ := hma
  have hscr := hg.2.2.2.2.1
  have hG : mj_Gr R s meth s.heap.size mj_S0 a0 X (y.1.name = "<init>") := ⟨hnm, Nat.le_refl _, ⟨by rw [hRc.1]; exact Nat.le_add_left _ _, by rw [hRc.2]; exact Nat.le_add_left _ _⟩, hg.2.2.2.2.2.2.1, hr8, hscr.1, hscr.2, Nat.not_le.mpr hscr.2⟩
  have hB : mj_Cal p l R s s m A meth c D ka mj_S0 a0 a0 y.2.1 y.2.2.1 (y.1.name = "<init>") X (mj_hd z.2.1) (mj_call X mj_P (mj_bi X) d) o d :=
    ⟨hx, hb, hml, by rw [← e2]; exact hown, hlk, fun w hw => mj_Wd2_at hg.2.1 hw, fun k cN _ => va_asg _ _, mj_hc_ok hhc hext, hG,
      hC, fun _ _ => rfl, fun M y as S Q hM hy h => mj_con_all hg d M y as S Q hM hy h, hf, hlo, ⟨hRc.1, hRc.2⟩, ⟨Nat.zero_le _, Nat.zero_le _⟩, hg.2.2.1, mj_hmh⟩
  have hT : ∀ q ∈ z.2.2, mj_bok (mj_Iok p l e R s m A below meth c D mj_cl mj_ft ka s.heap.size mj_S0 a0 y.2.2.1 X (mj_hd z.2.1) (mj_call X mj_P (mj_bi X) d)) q.1 q.2.2.1 q.2.2.2 := fun q hq =>
    mj_bok_of (fun x h1 h2 => mj_ins hg hB hrt (fun M as S Q hM h => mj_bi_of hM h) hy (fun he => by rw [he] at hext; exact List.map_eq_nil_iff.mp hext) h1 h2) q.2.2.1 q.1 q.2.2.2 (List.all_eq_true.mp hbc q hq) (List.all_eq_true.mp hvx q hq)
  have hP0 : va_P D mj_cl (mj_ws mj_ft ka a0 mj_S0) s.heap := fun k q h => by cases h
  have hD0 : va_D (fun q => s.heap.size ≤ q) (mj_ws mj_ft ka a0 mj_S0) := ⟨fun i j p q h => (by cases h), fun k q h => (by cases h)⟩
  have hR : mj_Rh D mj_cl mj_ft ka s.heap.size s mj_S0 a0 a0 mj_S0 s.heap [] 0 0 := ⟨hP0, hD0, va_S.rf, mj_wS0, ⟨Nat.le_refl _, fun _ _ => rfl⟩, rfl, rfl⟩
  have K := mj_rn_snd hT hQ hX 0 a0 _ [] mj_S0 s.heap [] 0 0 _ hR (mj_lr_entry a0 as (n := y.2.2.1) (k := k) (by rw [mj_en_len]; exact hlen)) (mj_wL_entry hwT) (fun v hv => by cases hv) hrn
  rw [List.map_nil, ← lg_entry_eq] at K
  exact K
theorem mj_Q1 {b : Nat} : mj_Qok s below (lw_Z below #[Value.ref b] s) D mj_cl mj_ft ka s.heap.size mj_S0 a0 (fun o _ => o = .inl (some (.int 1))) := by
  intro ad v S H locs cells slots t hR' hQ hv ht h1 h2 h3 h4
  obtain ⟨J, hJ1, hJ2⟩ := h4
  obtain ⟨r1, r2, r3, r4, r5, r6, r7⟩ := hR'
  have hv1 : v = some (.int 1) := Sum.inl.inj hQ
  subst hv1
  refine ⟨_, h1, h2, rfl, ⟨_, rfl⟩, h3, ?_⟩
  have := State.sameButNew.drop_fresh (L := []) (J := J) hJ2 hJ1
  have z1 : S.2.2.2.2.1 = cells := r6.trans (Nat.zero_add cells)
  have z2 : S.2.2.2.2.2 = slots := r7.trans (Nat.zero_add slots)
  have y1 := r4.1.2.2.1
  have y2 := r4.1.2.2.2
  rw [z1] at y1
  rw [z2] at y2
  exact this.mono y1 y2
theorem mj_X1 {Z : State → Prop} : mj_Xok s below Z D mj_cl mj_ft ka s.heap.size mj_S0 a0 (fun o _ => o = .inl (some (.int 1))) := by
  intro ad k S H locs cells slots a ce t hR' hQ
  cases hQ
end MJWALK
