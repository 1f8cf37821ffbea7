section GW2
variable {p : Program} {l : Launch} {e : Env} {s : State} {m : MethodId} {args : Array Value} {below : List Frame} {meth : Method} {c : Code} {F Lc : Nat} {cc : ByteArray} {nL : Nat} {Ω : Wd} {pc : Nat} {L : List (Nat × Value)} {st : List Value} {M M' : Mem} {out : Nat} {x : va_E} {ls : Array Slot} {Q : State → Prop} {E : va_E → Prop}
theorem wr_callR {hh : List (Nat × Nat × Nat × Nat)} (B : KW p s m args meth c cc nL Ω out M x hh) {y : MethodName} {cc' : ByteArray} {nL' : Nat} {ret' : Option FieldType} {F' Lc' idx : Nat} {As stk : List Value} {v : Option Value} (hC : Ct l y (.code y cc' nL' ret') F' Lc' Ω (.ref (wA Ω 0) :: As) M (.inr v, M')) (hX : LX Ω) (d : decode cc pc = .ok (.invokevirtual idx, 3)) (hU : uw_V RL idx RX9 y (.code y cc' nL' ret')) (hyc : y.cls = RX9) (hy : yOk y As.length) (hR : F' + 1 ≤ F ∧ 8 + (nL' + 11) + Lc' ≤ Lc) (hw : (st.map fun v => v.category).sum ≤ 8) (hst : stk = As.reverse ++ .ref (wA Ω 0) :: st) (hl : lv_has ls nL L)
    (kr : ∀ (H1 : Heap) (locs1 : List Loc), va_P (wG Ω) CL (wd Ω M') H1 → va_S (AA Ω s.heap.size) s.heap H1 locs1 → W p l e (Rm F Lc true) s m args below meth c H1 locs1 0 0 Q (F0 m (pc + 3) ls (v.toList ++ st))) : W p l e (Rm F Lc true) s m args below meth c s.heap [] 0 0 Q (F0 m pc ls stk) := by
  have B' := B
  obtain ⟨b1, b2, b3, b4, b5, b6, b7, b8, b9, b10, b11, b12, b13, b14⟩ := B'
  exact core_call (va_runV (As := As) (rest := st) ⟨b1, b2, b3, b4, b5⟩ (hC s.heap.size) (cwV As.length b5 hU.good rfl rfl rfl ⟨hyc, hy⟩ hR) ⟨pre_blind b10, va_recv b6 (wo_P b13) (ci := 7) rfl (wd_obj (lx_X hX).1 (lx_X hX).2), fun U hU hW => ⟨rfl, by rw [hU], wr_pre B hU hW⟩⟩ rfl rfl hl.1 hst (lv_room hw) d ⟨Nat.zero_le _, Nat.zero_le _⟩) va_S.rf kr
theorem wr_callX {hh : List (Nat × Nat × Nat × Nat)} (B : KW p s m args meth c cc nL Ω out M x hh) {y : MethodName} {cc' : ByteArray} {nL' : Nat} {ret' : Option FieldType} {F' Lc' idx k : Nat} {As stk : List Value} (hC : Ct l y (.code y cc' nL' ret') F' Lc' Ω (.ref (wA Ω 0) :: As) M (.inl k, M')) (hX : LX Ω) (d : decode cc pc = .ok (.invokevirtual idx, 3)) (hU : uw_V RL idx RX9 y (.code y cc' nL' ret')) (hyc : y.cls = RX9) (hy : yOk y As.length) (hR : F' + 1 ≤ F ∧ 8 + (nL' + 11) + Lc' ≤ Lc) (hw : (st.map fun v => v.category).sum ≤ 8) (hst : stk = As.reverse ++ .ref (wA Ω 0) :: st) (hl : lv_has ls nL L)
    (kx : ∀ (H1 : Heap) (locs1 : List Loc) (q : Addr) (ce : Cell), va_P (wG Ω) CL (wd Ω M') H1 → va_S (AA Ω s.heap.size) s.heap H1 locs1 → H1[q]? = some ce → ce.vm = .none → s.vm.findClass (exN k) = some ce.cls → vx_W p l e (Rm F Lc true) s m args below meth c H1 locs1 1 6 Q (F0 m pc ls st) q) : W p l e (Rm F Lc true) s m args below meth c s.heap [] 0 0 Q (F0 m pc ls stk) := by
  have B' := B
  obtain ⟨b1, b2, b3, b4, b5, b6, b7, b8, b9, b10, b11, b12, b13, b14⟩ := B'
  have hr := vx_runV (e := e) (below := below) (meth := meth) (locs := []) (cells := 0) (slots := 0) (R := Rm F Lc true) (g := F0 m pc ls stk) (As := As) (rest := st) ⟨b1, b2, b3, b4, b5⟩ (hC s.heap.size) (cwV As.length b5 hU.good rfl rfl rfl ⟨hyc, hy⟩ hR) ⟨pre_blind b10, va_recv b6 (wo_P b13) (ci := 7) rfl (wd_obj (lx_X hX).1 (lx_X hX).2), fun U hU hW => ⟨rfl, by rw [hU], wr_pre B hU hW⟩⟩ rfl rfl hl.1 hst (lv_room hw) d ⟨Nat.le_refl 1, Nat.le_refl 6⟩
  intro T hT X
  rcases hr T hT X with ⟨v, st₀, t, T', L1, h0, X', hL, e1, e2, hf, stp⟩ | ⟨q, st₀, t, T', L1, E', ce, h0, X', hL, e1, e2, ⟨hE, hP1, hz, hk⟩, hce, hcv, hcl, stp⟩
  · exact absurd hf (fun h => h)
  · rw [h0] at hz hk
    subst hE
    have hS1 : va_S (AA Ω s.heap.size) s.heap T'.heap ([] ++ L1) := ⟨by rw [e1]; exact hz, fun q h1 h2 => by rw [e1]; exact hk q h1 h2, fun q hq => by
      rcases List.mem_append.mp hq with h | h
      · cases h
      · exact hL q h⟩
    obtain ⟨t2, a1, b1⟩ := kx T'.heap ([] ++ L1) q ce (by rw [e1]; exact hP1) hS1 (by rw [e1]; exact hce) hcv hcl T' rfl X'
    exact ⟨t2, stp.trans a1, b1⟩
theorem wr_of {y : MethodName} {hh : List (Nat × Nat × Nat × Nat)} {av : List Value} (L0 : List (Nat × Value)) {k : Int32} (hO : OkW Ω) (ho : ∀ i, i < wN Ω → wA Ω i ≠ out) (hy : plainName y.cls = true) (hyc : y.cls = RL) (hav : (lg_sl av).length ≤ nL) (hL : lv_args 0 av = L0)
    (body : ∀ p e s m below meth c, KW p s m av.toArray meth c cc nL Ω out M x hh → ∀ ls, lv_has ls nL L0 → W p l e (Rm F Lc true) s m av.toArray below meth c s.heap [] 0 0 (WQ below Ω out k M' E av.toArray s) (F0 m 0 ls [])) : CtW l y (.codeWith y cc nL (some .int) hh) F Lc Ω out av M x k M' E := by
  intro sz hsz
  refine MetFree.of_bodyS (code := cc) (maxLocals := nL) (ret := some .int) hy ?_ ?_
  · intro args s m h hn
    obtain ⟨m9, meth, c, hn9, h1, h2, h3, h4, -, h5, h6, -⟩ := Cond.codeWith_spec (atoms_spec (ws := Cond.codeWith y cc nL (some .int) hh :: UW) h _ List.mem_cons_self)
    cases hn.symm.trans hn9
    exact ⟨meth, c, h1, h2, h3, h4, h5, h6⟩
  · intro p e s m args below meth c s₁ B hml hP _
    obtain ⟨rfl, hs0, hP1, hK1, hX1⟩ := hP
    subst hs0
    have hts := atoms_spec (ws := Cond.codeWith y cc nL (some .int) hh :: UW) B.pre
    have hown : s.vm.findClass y.cls = some m.cls := findClass_of_methodNamed B.named
    have hl := lv_entry av (n := nL) hav
    rw [hL] at hl
    have hh0 : s₁.heap = s.heap := by rw [B.state]; rfl
    have K := body p e s m below meth c ⟨B.exec, B.bytes, hml, hyc ▸ hown, fun w hw => hts w (List.mem_cons_of_mem _ hw), hK1, hX1, B.notSynchronized, B.returns, hO, ho, hsz, hP1, vx_table (x := y) B (hts _ List.mem_cons_self)⟩ _ hl
    rw [← lg_entry_eq] at K
    obtain ⟨t, a1, o, b1, b2, b3⟩ := K s₁ hh0 (Stand.of_body B)
    exact ⟨t, o, a1, b1, b2, ⟨b3.1, b3.2⟩⟩
end GW2
