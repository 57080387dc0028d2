/-! THE LAW'S WALK, out of the mini machine's (R_law to lw_At are the skeleton's) -/
def R_law : String := "MacroPressLaw"
def lw_P (b : Addr) (xs : List Int32) (args : Array Value) (s : State) : Prop := args = #[.ref b] ∧ s.IntsAt b xs ∧ xs.length ≤ 2048 ∧ (Jvm.Cond.and given_1 narrow_1).before args s = true
def lw_Q (_ : Array Value) (s : State) (o : Outcome) (t : State) : Prop := o = .returned (some (.int 1)) ∧ Framed s o t [] 601024 7293034
def lw_Z (below : List Frame) (a : Array Value) (s : State) : State → Prop := fun t => ∃ o, t.status = .running ∧ Ended t below o ∧ lw_Q a s o t
/-- what holds at the law's entry: the machine, the code, the tables' words (any of lw_tbl by 'hts w (by decide +kernel)'), the script of L ints xs at the cell b, what the Statement gives of the start (any of its parts by flat_of_before) -/
def lw_At (p : Program) (s : State) (m : MethodId) (meth : Method) (c : Code) (b L : Nat) (xs : Nat → Int32) : Prop :=
  p.tables.exec = Jvm.exec ∧ c.code = code ∧ meth.sig.returnType = ret ∧ c.maxLocals = 7 ∧ s.vm.findClass R_law = some m.cls ∧ (∀ w ∈ lw_tbl, w.before #[Value.ref b] s = true) ∧ va_X b L xs s s.heap ∧ b < s.heap.size ∧ meth.locks = false ∧ (Jvm.Cond.and given_1 narrow_1).before #[Value.ref b] s = true
def mj_S0 : mj_S := ([], fun _ _ => 0, fun _ _ => 0, fun _ _ => none, 0, 0)
def mj_X0 (L : Nat) (xs : Nat → Int32) : mj_X := ((L, xs), [mj_t1, mj_t2, mj_t3], 601024, 7293034)
theorem mj_y196 : mj_PD[196]? = some (⟨"MacroPressLaw", "law", "([I)Z"⟩, code, 7, ret, []) := rfl
theorem mj_z196 : mj_P[196]? = some (7, [], mb_196) := rfl
theorem mj_whole {p : Program} {l : Launch} {e : Env} {s : State} {m : MethodId} {below : List Frame} {meth : Method} {c : Code} {b L : Nat} {xs : Nat → Int32} (hfl0 : l.flags = pinnedFlags ++ [noTraceFlag]) (C0 : lw_At p s m meth c b L xs) (hex : c.exceptionTable.toList = [])
    (hrn : mj_rn (mj_X0 L xs) (mj_hd []) (mj_call (mj_X0 L xs) mj_P (mj_bi (mj_X0 L xs)) 2039) mb_196 0 (mj_en [.ref 900000] ++ List.replicate 6 none) [] mj_S0 (fun o _ => o = .inl (some (.int 1)))) :
    W p l e room_1 s m #[Value.ref b] below meth c s.heap [] 0 0 (lw_Z below #[Value.ref b] s) (entryFrame m ([Value.ref b] : List Value).toArray 7) := by
  obtain ⟨hx, hb, hr, hml, hown, hts, hX, hbl, hlk, hgv⟩ := C0
  obtain ⟨D, ka, a0, ha0, hg⟩ := mj_beg (L := L) (xs := xs) hfl0 hts hgv hX hbl
  have hC : mj_Cst s s := ⟨State.WarmedH.refl s, Nat.le_refl _, fun _ _ => rfl⟩
  obtain ⟨hmc, hma⟩ := mj_chk mj_z196
  generalize mj_ow.getD 196 0 = o at hmc hma
  unfold mj_mc at hmc
  rw [mj_z196, mj_y196] at hmc
  simp only [Bool.and_eq_true, beq_iff_eq] at hmc
  obtain ⟨⟨-, e2⟩, hbc⟩ := hmc
  unfold mj_ma at hma
  rw [mj_z196, mj_y196] at hma
  simp only [Bool.and_eq_true] at hma
  obtain ⟨⟨⟨-, hhc⟩, -⟩, hvx⟩ := hma
  have hB : mj_Cal p l room_1 s s m #[Value.ref b] meth c D ka mj_S0 a0 a0 code 7 ("law" = "<init>") (mj_X0 L xs) (mj_hd []) (mj_call (mj_X0 L xs) mj_P (mj_bi (mj_X0 L xs)) 2039) o 2039 :=
    ⟨hx, hb, hml, by rw [← e2]; exact hown, hlk, fun w hw => mj_Wd2_at hts hw, fun k cN _ => va_asg _ _, mj_hc_ok hhc (by rw [hex]; rfl),
      ⟨fun q => absurd q (by decide), Nat.le_refl _, ⟨Nat.le_of_ble_eq_true rfl, Nat.le_of_ble_eq_true rfl⟩, ⟨rfl, rfl⟩, ⟨by decide, by decide⟩, by rw [ha0]; exact hX, by rw [ha0]; exact hbl, by rw [ha0]; exact Nat.not_le.mpr hbl⟩,
      hC, fun _ _ => rfl, fun M y as S Q hM hy h => mj_con_all hg 2039 M y as S Q hM hy h, by decide, by decide, ⟨rfl, rfl⟩, ⟨Nat.zero_le _, Nat.zero_le _⟩, hg.2.2.1, mj_hmh⟩
  have hT : ∀ q ∈ mb_196, mj_bok (mj_Iok p l e room_1 s m #[Value.ref b] below meth c D mj_cl mj_ft ka s.heap.size mj_S0 a0 7 (mj_X0 L xs) (mj_hd []) (mj_call (mj_X0 L xs) mj_P (mj_bi (mj_X0 L xs)) 2039)) q.1 q.2.2.1 q.2.2.2 := fun q hq =>
    mj_bok_of (fun x h1 h2 => mj_ins hg hB hr (fun M as S Q hM h => mj_bi_of hM h) mj_y196 (fun _ => hex) h1 h2) q.2.2.1 q.1 q.2.2.2 (List.all_eq_true.mp hbc q hq) (List.all_eq_true.mp hvx q hq)
  have hP0 : va_P D mj_cl (mj_ws mj_ft ka a0 mj_S0) s.heap := fun k q h => by cases h
  have hD0 : va_D (fun q => s.heap.size ≤ q) (mj_ws mj_ft ka a0 mj_S0) := ⟨fun i j p q h => by cases h, fun k q h => by cases h⟩
  have hw0 : mj_wS mj_S0 := ⟨⟨by decide, by decide, by decide, by decide⟩, fun a j q h => by cases h⟩
  have hR : mj_Rh D mj_cl mj_ft ka s.heap.size s mj_S0 a0 a0 mj_S0 s.heap [] 0 0 := ⟨hP0, hD0, va_S.rf, hw0, ⟨Nat.le_refl _, fun _ _ => rfl⟩, rfl, rfl⟩
  have K := mj_rn_snd (Z := lw_Z below #[Value.ref b] s) hT (Q := fun o _ => o = .inl (some (.int 1))) ?_ ?_ 0 a0 _ [] mj_S0 s.heap [] 0 0 _ hR (mj_lr_entry a0 [.ref 900000] (n := 7) (k := 6) (by decide)) (mj_wL_entry (as := [.ref 900000]) (fun v hv => by rw [List.mem_singleton.mp hv]; exact Or.inr (Nat.le_refl _))) (fun v hv => by cases hv) hrn
  · rw [List.map_nil, ← lg_entry_eq] at K
    have e0 : ([Value.ref 900000].map (mj_tr a0)) = [Value.ref b] := by
      show [Value.ref (a0 900000)] = _
      rw [ha0]
    rw [e0] at K
    exact K
  · intro ad v S H locs cells slots t hR' hQ hv ht h1 h2 h3 h4
    obtain ⟨J, hJ1, hJ2⟩ := h4
    obtain ⟨r1, r2, r3, r4, r5, r6, r7⟩ := hR'
    have hv1 : v = some (.int 1) := Sum.inl.inj hQ
    subst hv1
    refine ⟨_, h1, h2, rfl, ⟨_, rfl⟩, h3, ?_⟩
    have := State.sameButNew.drop_fresh (L := []) (J := J) hJ2 hJ1
    have z1 : mj_S0.2.2.2.2.1 = 0 := rfl
    have z2 : mj_S0.2.2.2.2.2 = 0 := rfl
    have y1 := r4.1.2.2.1
    have y2 := r4.1.2.2.2
    exact this.mono (by omega) (by omega)
  · intro ad k S H locs cells slots a ce t hR' hQ
    cases hQ
