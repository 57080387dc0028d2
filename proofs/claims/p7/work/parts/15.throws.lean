/-! A THROW IN A BODY -/
section MJU
variable {p : Program} {l : Launch} {e : Env} {R : Room} {s s0 : State} {m : MethodId} {args : Array Value} {below : List Frame} {meth : Method} {c : Code} {Z : State → Prop}
variable {D : va_G} {cl : List vw_C} {ft : Nat → Nat → Nat} {ka : Nat → ClassId} {B : Nat} {E : mj_S} {aE : Nat → Nat} {cc : ByteArray} {nL : Nat} {own : String} {Wd : Cond → Prop} {ini : Prop} {rt : Option FieldType} {X : mj_X} {hd : mj_H} {cls : mj_C}
theorem mj_Cst.on {T : State} {H : Heap} {locs : List Loc} (hC : mj_Cst s0 s) (hB : B = s0.heap.size) (hS : va_S (fun q => B ≤ q) s.heap H locs) (hH : T.heap = H) (hW : s.WarmedH T.vm) : mj_Cst s0 T := by
  refine ⟨hC.1.trans hW, by rw [hH]; exact Nat.le_trans hC.2.1 hS.1, fun q hq => ?_⟩
  rw [hH, hS.2.1 q (Nat.lt_of_lt_of_le hq hC.2.1) (by omega)]
  exact hC.2.2 q hq
theorem mj_Iok_throw (hx : p.tables.exec = Jvm.exec) (hb : c.code = cc) (hml : c.maxLocals = nL) (hown : s.vm.findClass own = some m.cls) (hlk : meth.locks = false) (hwd : ∀ w, Wd w → w.before args s = true) (hG : mj_Gr R s meth B E aE X ini) (hfl : l.flags = pinnedFlags ++ [noTraceFlag]) (hC : mj_Cst s0 s) (hB : B = s0.heap.size)
    {x : mj_I} {n iL ic : Nat} {A : Array Value} {tx : String} {q0 : Nat} (hi : x.2.1 = .new n) (ht : x.2.2.2.1.2.2 ≠ 0) (hth : mj_Thr A s0 own ic (mj_ex x.2.2.2.1.1) ["java/lang/RuntimeException", "java/lang/Exception"]) (hcls : Bundle.fit (mj_ex x.2.2.2.1.1) = true)
    (w1 : Wd (.classLink own n (mj_ex x.2.2.2.1.1))) (w2 : Wd (.instantiable (mj_ex x.2.2.2.1.1) 6)) (w3 : Wd (.initialized (mj_ex x.2.2.2.1.1))) (hstr : vk_R own iL tx q0 s)
    (hd0 : decode cc x.1 = .ok (.new n, 3)) (hd3 : decode cc (x.1 + 3) = .ok (.dup, 1)) (hd4 : decode cc (x.1 + 4) = .ok (.ldc iL, 2)) (hd6 : decode cc (x.1 + 6) = .ok (.invokespecial ic, 3)) (hd9 : decode cc (x.1 + 9) = .ok (.athrow, 1)) (hout : c.exceptionTable.toList = []) :
    mj_Iok p l e R s m args below meth c D cl ft ka B E aE nL X hd cls x := by
  intro nx K Q Z hN hK hQ hX ad lv st S H locs cells slots ls hR hl hwl hwt h
  obtain ⟨pc, i, len, ⟨a, b, t⟩, k, kl, sw⟩ := x
  dsimp only at hi ht hth hcls w1 w2 w3 hd0 hd3 hd4 hd6 hd9 ⊢
  subst hi
  subst hb
  simp only [mj_in] at h
  obtain ⟨rfl, ⟨c1, c2⟩, h1⟩ := mj_p0_sp h
  obtain ⟨g1, g2, g3, g4, g5, g6⟩ := hG
  have q6 := hR.2.2.2.2.2.1
  have q7 := hR.2.2.2.2.2.2
  intro T hT XT
  have hCT : mj_Cst s0 T := hC.on hB hR.2.2.1 hT XT.warmed
  obtain ⟨U, ax, ce, u1, u2, u3, u4, u5, u6, u7, u8, u9, u10⟩ := mj_throw XT hx (Launch.traces_off hfl XT.admits) (s0 := s0) hC hCT hown hcls (by decide) hth (hwd _ w1) (hwd _ w2) (hwd _ w3) hstr (ls := ls) (rest := []) (by rw [hl.1]; exact hml.symm) hd0 hd3 hd4 hd6 hd9 (fun y hy => by rw [hout] at hy; cases hy) (by show 2 + 3 < _; omega) (by show 0 + (13 * 3 + 43) ≤ _; omega) (by omega) (by omega) hlk
  refine ⟨U, u1, hX ad a _ U.heap locs (cells + 1) (slots + 6) ax ce U ?_ h1 u8 u9 u10 rfl u2 u3 u4 ⟨locs, hR.2.2.1.2.2, u5⟩⟩
  obtain ⟨r1, r2, r3, r4, r5, r6, r7⟩ := hR
  rw [hT] at u6 u7
  refine ⟨?_, r2, ⟨Nat.le_trans r3.1 u6, fun q hq hA => ?_, r3.2.2⟩, ?_, r5, ?_, ?_⟩
  · exact r1.kept (fun k q hq => u7 q.1 (r1 k q hq).lt)
  · rw [u7 q (Nat.lt_of_lt_of_le hq r3.1)]
    exact r3.2.1 q hq hA
  · exact ⟨⟨r4.1.1, Nat.le_succ_of_le r4.1.2.1, by show S.2.2.2.2.1 + 1 ≤ _; omega, by show S.2.2.2.2.2 + 6 ≤ _; omega⟩, r4.2⟩
  · show S.2.2.2.2.1 + 1 = _
    omega
  · show S.2.2.2.2.2 + 6 = _
    omega
end MJU
