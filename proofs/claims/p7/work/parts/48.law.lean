/-! THE LAW'S WALK, with its numbers -/
def mj_X0 (L : Nat) (xs : Nat → Int32) : mj_X := ((L, xs), [mj_t1, mj_t2, mj_t3], 601024, 7293034)
theorem mj_y196 : mj_PD[196]? = some (⟨"MacroPressLaw", "law", "([I)Z"⟩, code, 7, ret, []) := rfl
theorem mj_z196 : mj_P[196]? = some (7, [], mb_196) := rfl
theorem mj_rf : 2039 + 9 ≤ room_1.frames := by decide
theorem mj_rl : 40 * 2039 + 340 ≤ room_1.locals := by decide
theorem mj_r8 : 8 ≤ room_1.frames ∧ 300 ≤ room_1.locals := by decide
theorem mj_whole {p : Program} {l : Launch} {e : Env} {s : State} {m : MethodId} {below : List Frame} {meth : Method} {c : Code} {b L : Nat} {xs : Nat → Int32} (hfl0 : l.flags = pinnedFlags ++ [noTraceFlag]) (C0 : lw_At p s m meth c b L xs) (hex : c.exceptionTable.toList = [])
    (hrn : mj_rn (mj_X0 L xs) (mj_hd []) (mj_call (mj_X0 L xs) mj_P (mj_bi (mj_X0 L xs)) 2039) mb_196 0 (mj_en [.ref 900000] ++ List.replicate 6 none) [] mj_S0 (fun o _ => o = .inl (some (.int 1)))) :
    W p l e room_1 s m #[Value.ref b] below meth c s.heap [] 0 0 (lw_Z below #[Value.ref b] s) (entryFrame m ([Value.ref b] : List Value).toArray 7) := by
  obtain ⟨hx, hb, hr, hml, hown, hts, hX, hbl, hlk, hgv⟩ := C0
  obtain ⟨D, ka, a0, ha0, hg⟩ := mj_beg (L := L) (xs := xs) hfl0 hts hgv hX hbl
  have K := mj_walk (p := p) (e := e) (m := m) (below := below) (meth := meth) (c := c) (R := room_1) (Z := lw_Z below #[Value.ref b] s) (X := mj_X0 L xs) (k := 6) (as := [.ref 900000]) hg mj_z196 mj_y196 hx hb hml hown hlk hr (by rw [hex]; rfl) (fun q => absurd q (by decide)) mj_rf mj_rl mj_r8 ⟨rfl, rfl⟩ (fun v hv => by rw [List.mem_singleton.mp hv]; exact Or.inr (Nat.le_refl _)) (Nat.le_of_ble_eq_true rfl) mj_Q1 mj_X1 hrn
  have e0 : ([Value.ref 900000].map (mj_tr a0)) = [Value.ref b] := by
    show [Value.ref (a0 900000)] = _
    rw [ha0]
  rw [e0] at K
  exact K
