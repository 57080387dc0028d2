/-! CALL SITES: objects' methods, constructors -/
theorem mj_mn_eq {a : Nat} {y : mj_D} (ha : a < 900) (hy : mj_PD[a]? = some y) : mj_mn a = y.1 := by
  unfold mj_mn
  split <;> first | omega | (rw [hy])
section MJSV
variable {p : Program} {l : Launch} {e : Env} {R : Room} {s s0 : State} {m : MethodId} {args : Array Value} {below : List Frame} {meth : Method} {c : Code} {T : State} {locs : List Loc} {cells slots : Nat}
theorem mj_entIN (X : Stand p l e R s m args below meth c T locs cells slots) (hexec : p.tables.exec = Jvm.exec) {own : String} {index : Nat} {host : String} {y : MethodName} {bytes : ByteArray} {maxL : Nat}
    (hown : s.vm.findClass own = some m.cls) (hy1 : y.name = "<init>") (hlink : (Cond.methodLinkNest own index y host).before args s = true) (hinst : (Cond.instanceMethod y).before args s = true)
    (hcode : (Cond.code y bytes maxL none).before args s = true) (hy : y.cls ≠ "java/lang/invoke/MethodHandle" ∧ y.cls ≠ "java/lang/invoke/VarHandle")
    {g : JFrame} (hg : g.method = m) {a : Addr} {argsL rest : List Value} (hlen : ∀ sig, parseMethodDescriptor y.desc = some sig → argsL.length = sig.parameters.length)
    (hstack : g.stack = argsL.reverse ++ .ref a :: rest) (hdg : decode c.code g.pc = .ok (.invokespecial index, 3)) : mj_Ent p l e R s m args below meth c T locs cells slots y g rest (Value.ref a :: argsL).toArray := by
  subst hg
  have hpl : e.platform.magicAccessors = ({} : Platform).magicAccessors := by rw [X.admits.platform]
  obtain ⟨mk, methM, cM, kP, vm₁, hnamed, hmethM, hcodeM, -, hlocalsM, -, hkP, -, hW₁, hstep₁⟩ := Steps.initColdArgsNest (e := e) X.here hexec X.warmed hpl hown hy1 hy hlink hinst hcode (f := g) rfl hlen hstack hdg
  exact ⟨vm₁, mk, X.noted hW₁, hnamed, fun target h => hstep₁ _ fun acts => by rw [doInvoke_state]; exact h⟩
variable {D : va_G} {ka : Nat → ClassId} {E : mj_S} {aE a0 : Nat → Nat} {cc : ByteArray} {nL : Nat} {ini : Prop} {X : mj_X} {hd : mj_H} {cls : mj_C} {o d : Nat}
theorem mj_Iok_virtual (hB : mj_Cal p l R s s0 m args meth c D ka E aE a0 cc nL ini X hd cls o d) {pc n len a b t : Nat} {k : Int32} {kl : Int64} {sw : List (Int32 × Nat)} (hdec : decode cc pc = .ok (.invokevirtual n, len)) (h3 : len = 3) (hv : mj_vk o (pc, .invokevirtual n, len, (a, b, t), k, kl, sw) = true) (ha : a < 900) (hnl : ∀ y, mj_PD[a]? = some y → y.1 ≠ ⟨"MacroPressLaw", "law", "([I)Z"⟩) :
    mj_Iok p l e R s m args below meth c D mj_cl mj_ft ka s0.heap.size E aE nL X hd cls (pc, .invokevirtual n, len, (a, b, t), k, kl, sw) := by
  subst h3
  obtain ⟨hx, hb, hml, hown, hlk, hwd, hself, hH, hG, hC, ha0, hcon, hf, hlo, hR1, hR2, hKt, hmh⟩ := hB
  unfold mj_vk at hv
  dsimp only at hv
  simp only [Bool.or_eq_true, Bool.and_eq_true, beq_iff_eq, bne_iff_ne] at hv
  rcases hv with hv | ⟨⟨⟨ht, -⟩, h1⟩, h2⟩
  · exact absurd (Nat.le_of_ble_eq_true hv.2) (by omega)
  · split at h2
    · rename_i y q hy hq
      simp only [Bool.and_eq_true, beq_iff_eq, bne_iff_ne] at h2
      obtain ⟨⟨⟨⟨z1, z2⟩, z3⟩, z4⟩, z5⟩ := h2
      rcases hmh a y hy with hm | hm
      · obtain ⟨w1, w2, w3, w4, w5, q', hq', w6⟩ := mj_mhc_ok hm hy
        cases hq.symm.trans hq'
        obtain ⟨w7, w8⟩ : mj_Wd (.instanceMethod y.1) ∧ mj_Wd (.selects y.1.cls y.1 y.1) := by
          rcases w6 with w6 | w6
          · exact absurd w6.1 z1
          · refine ⟨w6.2.1, ?_⟩
            rcases w6.2.2 with w | w
            · exact absurd w z2
            · exact w
        have ml := mj_zc_wd mj_MLok _ (List.contains_iff_mem.mp h1)
        unfold mj_mlc at ml
        dsimp only at ml
        rw [mj_mn_eq ha hy] at ml
        split at z5
        · rename_i cq hcq
          have hcq1 : cq.1 = y.1.cls := by simpa using z5
          refine mj_Iok_call (d := d) (b := b) (y := y) (Rc := fun S as => ∃ o r' k, as = .ref o :: r' ∧ S.1[o]? = some (t, k)) (Wd := mj_Wd2) (a0 := a0) (ini := ini) hx hb hml hown hlk hwd hself hH hG hC ha0 (fun w hw => mj_Wd2_good hw) rfl hdec (fun nx Q K lv st S h => ?_) (fun as S Q h => hcon a y as S Q ha hy h) hf hlo w3 w1 (Or.inl w2) hR1 hR2 (fun T locs cells slots ls ad S as rest hR XT hl hrc => ?_)
          · simp only [mj_in] at h
            exact mj_ir_sp h
          · obtain ⟨ob, r', k', rfl, hob⟩ := hrc
            have hk : t < 1000 := by
              have := (List.getElem?_eq_some_iff.mp hcq).1
              have : mj_cl.length = 11 := rfl
              omega
            have hat := mj_ws_at (ft := mj_ft) (ka := ka) (ad := ad) hob
            rw [mj_ent_obj hk] at hat
            obtain ⟨cell, e1, e2, e3⟩ := va_recv hKt hR.1 hcq hat
            have := mj_entV XT hx hown (C := y.1.cls) (hwd _ (Or.inl ml)) (hwd _ (Or.inl w7)) (hwd _ (Or.inl w8)) (hwd _ w1) w5 (b := ad ob) e1 e2 (by rw [← hcq1]; exact e3) (g := F0 m pc ls (((Value.ref ob :: r').map (mj_tr ad)).reverse ++ rest)) rfl (argsL := r'.map (mj_tr ad)) (rest := rest) (fun sig hs => by
              rw [List.length_map]
              have := mj_pn_ok z3 sig hs
              rw [List.length_cons] at hl
              omega) (by simp [mj_tr]) (by rw [hb]; exact hdec)
            exact this
        · cases z5
      · exact absurd hm (hnl y hy)
    · cases h2
theorem mj_Iok_special (hB : mj_Cal p l R s s0 m args meth c D ka E aE a0 cc nL ini X hd cls o d) (hN1 : (Cond.methodLinkNest "MacroPress" 11 ⟨"MacroPress$Progress", "<init>", "()V"⟩ "MacroPress").before args s = true) {pc n len a b : Nat} {k : Int32} {kl : Int64} {sw : List (Int32 × Nat)} (hdec : decode cc pc = .ok (.invokespecial n, len)) (h3 : len = 3) (hv : mj_vk o (pc, .invokespecial n, len, (a, b, 0), k, kl, sw) = true) (hnl : ∀ y, mj_PD[a]? = some y → y.1 ≠ ⟨"MacroPressLaw", "law", "([I)Z"⟩) :
    mj_Iok p l e R s m args below meth c D mj_cl mj_ft ka s0.heap.size E aE nL X hd cls (pc, .invokespecial n, len, (a, b, 0), k, kl, sw) := by
  subst h3
  obtain ⟨hx, hb, hml, hown, hlk, hwd, hself, hH, hG, hC, ha0, hcon, hf, hlo, hR1, hR2, hKt, hmh⟩ := hB
  unfold mj_vk at hv
  dsimp only at hv
  simp only [Bool.or_eq_true, Bool.and_eq_true, beq_iff_eq, bne_iff_ne, ne_eq, not_true_eq_false, false_or] at hv
  obtain ⟨⟨ha, h1⟩, h2⟩ := hv
  have ha : a < 900 := by simpa using ha
  split at h2
  · rename_i y q hy hq
    simp only [Bool.and_eq_true, beq_iff_eq, bne_iff_ne, decide_eq_true_eq] at h2
    obtain ⟨⟨⟨⟨⟨z1, z2⟩, z3⟩, z4⟩, z5⟩, z6⟩ := h2
    rcases hmh a y hy with hm | hm
    · obtain ⟨w1, w2, w3, w4, w5, q', hq', w6⟩ := mj_mhc_ok hm hy
      cases hq.symm.trans hq'
      have w7 : mj_Wd (.instanceMethod y.1) := by
        rcases w6 with w6 | w6
        · exact absurd w6.1 z1
        · exact w6.2.1
      have hcd : (Cond.code y.1 y.2.1 y.2.2.1 none).before args s = true := by
        have := hwd _ w1
        unfold mj_cw at this
        rw [z5, z6] at this
        simp only [Cond.before, Cond.holds] at this ⊢
        rw [Cond.code_iff_codeWith_nil]
        exact this
      refine mj_Iok_call (d := d) (b := b) (y := y) (Rc := fun S as => ∃ o r', as = .ref o :: r') (Wd := mj_Wd2) (a0 := a0) (ini := ini) hx hb hml hown hlk hwd hself hH hG hC ha0 (fun w hw => mj_Wd2_good hw) rfl hdec (fun nx Q K lv st S h => ?_) (fun as S Q h => hcon a y as S Q ha hy h) hf hlo w3 w1 (Or.inl w2) hR1 hR2 (fun T locs cells slots ls ad S as rest hR XT hl hrc => ?_)
      · obtain ⟨z, e1, e2⟩ := mj_so_sp (show mj_ip hd cls nx Q pc a b K lv st S from h)
        obtain ⟨e3, e4⟩ := mj_tt_sp e2
        obtain ⟨as, r⟩ := z
        dsimp only at e3 e4
        unfold mj_hr at e4
        split at e4
        · exact ⟨_, r, e1, Nat.le_of_ble_eq_true e3, ⟨_, _, rfl⟩, e4⟩
        · exact e4.elim
      · obtain ⟨ob, r', rfl⟩ := hrc
        have hln : ∀ sig, parseMethodDescriptor y.1.desc = some sig → (r'.map (mj_tr ad)).length = sig.parameters.length := fun sig hs => by
          rw [List.length_map]
          have := mj_pn_ok z3 sig hs
          rw [List.length_cons] at hl
          omega
        have hstk : (F0 m pc ls (((Value.ref ob :: r').map (mj_tr ad)).reverse ++ rest)).stack = (r'.map (mj_tr ad)).reverse ++ .ref (ad ob) :: rest := by simp [mj_tr]
        rcases h1 with h1 | ⟨⟨rfl, rfl⟩, rfl⟩
        · have ml := mj_zc_wd mj_MLok _ (List.contains_iff_mem.mp h1)
          unfold mj_mlc at ml
          dsimp only at ml
          rw [mj_mn_eq ha hy] at ml
          exact mj_entI XT hx hown z2 (hwd _ (Or.inl ml)) (hwd _ (Or.inl w7)) hcd w5 (g := F0 m pc ls (((Value.ref ob :: r').map (mj_tr ad)).reverse ++ rest)) rfl hln hstk (by rw [hb]; exact hdec)
        · have hy75 : y.1 = ⟨"MacroPress$Progress", "<init>", "()V"⟩ := by
            have : mj_PD[75]? = some y := hy
            have h75 : (mj_PD[75]?).map (fun y => y.1) = some ⟨"MacroPress$Progress", "<init>", "()V"⟩ := by decide +kernel
            rw [this] at h75
            exact Option.some.inj h75
          exact mj_entIN XT hx hown z2 (host := "MacroPress") (by rw [hy75]; exact hN1) (hwd _ (Or.inl w7)) hcd w5 (g := F0 m pc ls (((Value.ref ob :: r').map (mj_tr ad)).reverse ++ rest)) rfl hln hstk (by rw [hb]; exact hdec)
    · exact absurd hm (hnl y hy)
  · cases h2
end MJSV
