/-! in the law's body: both systems and the cells of answers in one heap -/
def APt (ax am : Nat → Nat) (out outD z : Nat) : Prop := (∀ i, i < 479 → ∀ j, j < 12 → ax i ≠ am j) ∧ (∀ i, i < 479 → ax i ≠ out ∧ ax i ≠ outD) ∧ (∀ j, j < 12 → am j ≠ out ∧ am j ≠ outD) ∧ out ≠ outD ∧ (∀ i, i < 479 → z ≤ ax i) ∧ (∀ j, j < 12 → z ≤ am j) ∧ z ≤ out ∧ z ≤ outD
def LH (D : va_G) (cy : Nat → ClassId) (E ax am : Nat → Nat) (s : State) (out outD : Nat) (Mx Mm : Mem) (xo xd : va_E) (H : Heap) : Prop := va_P D CL (wd (WX D cy E ax s) Mx) H ∧ va_P D CL (wd (WM D cy am s) Mm) H ∧ va_at D CL (out, xo) H ∧ va_at D CL (outD, xd) H
def KT (p : Program) (s : State) (m : MethodId) (b Ls : Nat) (xs : Nat → Int32) (c : Code) (D : va_G) (cy : Nat → ClassId) (E ax am : Nat → Nat) (out outD : Nat) : Prop :=
  p.tables.exec = Jvm.exec ∧ c.code = code ∧ c.maxLocals = 9 ∧ s.vm.findClass RL = some m.cls ∧ (∀ w ∈ UW, w.before #[Value.ref b] s = true) ∧ va_K D CL (tyX cy) s ∧ GX s s ∧ va_X b Ls xs s s.heap ∧ b < s.heap.size ∧ OkW (WX D cy E ax s) ∧ OkW (WM D cy am s) ∧ APt ax am out outD s.heap.size
section LWS
variable {p : Program} {l : Launch} {e : Env} {s : State} {m : MethodId} {below : List Frame} {meth : Method} {c : Code} {b Ls : Nat} {xs : Nat → Int32} {D : va_G} {cy : Nat → ClassId} {E ax am : Nat → Nat} {out outD : Nat} {Mx Mm Mx' Mm' : Mem} {xo xd : va_E} {H : Heap} {locs : List Loc} {cells slots pc : Nat} {ls : Array Slot} {L : List (Nat × Value)} {st stk : List Value} {Q : State → Prop}
abbrev A0 (s : State) : Nat → Prop := fun q => s.heap.size ≤ q
theorem lh_gx (K : KT p s m b Ls xs c D cy E ax am out outD) (hS : va_S (A0 s) s.heap H locs) {U : State} (hU : U.heap = H) (hW : s.WarmedH U.vm) : GX s U :=
  K.2.2.2.2.2.2.1.next hW (by rw [hU]; exact hS.1) (fun q hq => by rw [hU]; exact hS.2.1 q hq (Nat.not_le.mpr hq))
theorem lh_S {A : Nat → Prop} {H1 : Heap} {L1 : List Loc} (hS : va_S (A0 s) s.heap H locs) (hz : H.size ≤ H1.size) (hk : ∀ q : Nat, q < H.size → ¬ A q → H1[q]? = H[q]?) (hA : ∀ q, A q → s.heap.size ≤ q) (hL : ∀ q ∈ L1, A q.base) : va_S (A0 s) s.heap H1 (locs ++ L1) :=
  ⟨Nat.le_trans hS.1 hz, fun q h1 h2 => by rw [hk q (Nat.lt_of_lt_of_le h1 hS.1) (fun z => h2 (hA q z))]; exact hS.2.1 q h1 h2, fun q hq => by
      rcases List.mem_append.mp hq with h | h
      · exact hS.2.2 q h
      · exact hA _ (hL q h)⟩
theorem aax_ge (K : KT p s m b Ls xs c D cy E ax am out outD) (hS : va_S (A0 s) s.heap H locs) {q : Nat} (h : AA (WX D cy E ax s) H.size q) : s.heap.size ≤ q := by
  rcases h with ⟨i, hi, h⟩ | h
  · have := K.2.2.2.2.2.2.2.2.2.2.2.2.2.2.2.1 i hi
    have h2 : ax i = q := h
    omega
  · exact Nat.le_trans hS.1 h
theorem aam_ge (K : KT p s m b Ls xs c D cy E ax am out outD) (hS : va_S (A0 s) s.heap H locs) {q : Nat} (h : AA (WM D cy am s) H.size q) : s.heap.size ≤ q := by
  rcases h with ⟨i, hi, h⟩ | h
  · have := K.2.2.2.2.2.2.2.2.2.2.2.2.2.2.2.2.1 i hi
    have h2 : am i = q := h
    omega
  · exact Nat.le_trans hS.1 h
theorem keepM (K : KT p s m b Ls xs c D cy E ax am out outD) {H1 : Heap} {A : Nat → Prop} (hP : va_P D CL (wd (WM D cy am s) Mm) H) (hA : ∀ q, q < H.size → A q → AA (WX D cy E ax s) H.size q ∨ q = out) (hk : ∀ q : Nat, q < H.size → ¬ A q → H1[q]? = H[q]?) : va_P D CL (wd (WM D cy am s) Mm) H1 := by
  refine hP.kept (fun k q hq => ?_)
  have hlt := (hP k q hq).lt
  obtain ⟨h1, rfl⟩ := wd_in hq
  refine hk _ hlt (fun z => ?_)
  have hP4 := K.2.2.2.2.2.2.2.2.2.2.2
  rcases hA _ hlt z with (⟨i, hi, h⟩ | h) | h
  · exact hP4.1 i hi k h1 h
  · omega
  · exact (hP4.2.2.1 k h1).1 h
theorem keepX (K : KT p s m b Ls xs c D cy E ax am out outD) {H1 : Heap} (hP : va_P D CL (wd (WX D cy E ax s) Mx) H) (hk : ∀ q : Nat, q < H.size → ¬ AA (WM D cy am s) H.size q → H1[q]? = H[q]?) : va_P D CL (wd (WX D cy E ax s) Mx) H1 := by
  refine hP.kept (fun k q hq => ?_)
  have hlt := (hP k q hq).lt
  obtain ⟨h1, rfl⟩ := wd_in hq
  refine hk _ hlt (fun z => ?_)
  have hP4 := K.2.2.2.2.2.2.2.2.2.2.2
  rcases z with ⟨i, hi, h⟩ | h
  · exact hP4.1 k h1 i hi h.symm
  · omega
theorem at_lt {x : va_E} {a : Nat} (h : va_at D CL (a, x) H) : a < H.size := va_at.lt h
/-- a method of the law's own -/
theorem law_wcall (K : KT p s m b Ls xs c D cy E ax am out outD) {y : MethodName} {cc' : ByteArray} {nL' F' Lc' idx : Nat} {hh : List (Nat × Nat × Nat × Nat)} {av : List Value} {k : Int32} {E' : va_E → Prop} (hC : CtW l y (.codeWith y cc' nL' (some .int) hh) F' Lc' (WX D cy E ax s) out av Mx xo k Mx' E') (d : decode code pc = .ok (.invokestatic idx, 3)) (hU : Cond.methodLink RL idx y ∈ UW ∧ Cond.static y ∈ UW ∧ Cond.initialized y.cls ∈ UW ∧ Cond.codeWith y cc' nL' (some .int) hh ∈ UW) (hy : yOk y av.length) (hR : F' + 1 ≤ 2048 ∧ 8 + (nL' + 11) + Lc' ≤ 94400) (hw : (st.map fun v => v.category).sum ≤ 8) (hst : stk = av.reverse ++ st) (hl : lv_has ls 9 L) (hS : va_S (A0 s) s.heap H locs) (hH : LH D cy E ax am s out outD Mx Mm xo xd H) (hc : cells + 1 ≤ 603072) (hs : slots + 6 ≤ 7211114)
    (kk : ∀ (H1 : Heap) (locs1 : List Loc) (xo' : va_E), E' xo' → LH D cy E ax am s out outD Mx' Mm xo' xd H1 → va_S (A0 s) s.heap H1 locs1 → W p l e room_1 s m #[Value.ref b] below meth c H1 locs1 (cells + 1) (slots + 6) Q (F0 m (pc + 3) ls (.int k :: st))) : W p l e room_1 s m #[Value.ref b] below meth c H locs cells slots Q (F0 m pc ls stk) := by
  obtain ⟨u1, u2, u3, u4⟩ := hU
  have K' := K
  obtain ⟨b1, b2, b3, b4, b5, b6, b7, b8, b9, b10, b11, b12⟩ := K'
  obtain ⟨g1, g2, g3, g4⟩ := hH
  have hbl : FrameBlind (PreW (WX D cy E ax s) av Mx (out, xo) H.size) := fun a U g mk q => by
    obtain ⟨q0, q1, qP, qK, qX⟩ := q
    exact ⟨q0, q1, qP, va_K.moved (u := U) (U := U.calling g mk a) (Vm.Alike.refl U.vm) qK, b10.2.2.1 U g mk a qX⟩
  have hr := vx_runSW (e := e) (below := below) (meth := meth) (locs := locs) (cells := cells) (slots := slots) (R := room_1) (g := F0 m pc ls stk) (As := av) (rest := st) (own := RL) (index := idx) (n := av.length) (Ts := UW) ⟨b1, b2, b3, b4, b5⟩ (hC H.size (at_lt g3)) ⟨⟨rfl, rfl, hR.1, hR.2, pay_in b5 (uw_c u4), List.mem_cons_self⟩, b5 _ u4, b5 _ u3, ⟨hy.1, hy.2.1⟩, fun sig h => by
      have h2 := hy.2.2
      rw [h] at h2
      exact (Option.some.inj h2).symm, b5 _ u1, b5 _ u2⟩ ⟨hbl, fun U hU hW => ⟨rfl, by rw [hU], by rw [hU]; exact wo_mk (Ω := WX D cy E ax s) g1 g3, va_K.moved hW.alike b6, lh_gx K hS hU hW⟩⟩ rfl rfl hl.1 hst (lv_room hw) d ⟨hc, hs⟩
  intro T hT X
  obtain ⟨v', st₀, t, T', L1, h0, X', hL, e1, e2, ⟨hv, ⟨x1, hE1, hP1⟩, hz, hk⟩, stp⟩ := hr T hT X
  cases hv
  rw [h0] at hz hk
  have hge : ∀ q, AW (WX D cy E ax s) out H.size q → s.heap.size ≤ q := fun q h => by
    rcases h with h | h
    · exact aax_ge K hS h
    · rw [h]; exact b12.2.2.2.2.2.2.1
  have hd1 : va_at D CL (outD, xd) t.heap := g4.kept (hk outD (at_lt g4) (fun z => by
    rcases z with (⟨i, hi, h⟩ | h) | h
    · exact (b12.2.1 i hi).2 h
    · have := at_lt g4; omega
    · exact b12.2.2.2.1 h.symm))
  obtain ⟨t2, a1, c1⟩ := kk T'.heap (locs ++ L1) x1 hE1 (by rw [e1]; exact ⟨wo_P hP1, keepM K g2 (fun q _ h => h) hk, wo_x hP1, hd1⟩) (lh_S hS (by rw [e1]; exact hz) (by rw [e1]; exact hk) hge hL) T' rfl X'
  exact ⟨t2, stp t2 a1, c1⟩
/-- a method of the reference -/
theorem law_mcall (K : KT p s m b Ls xs c D cy E ax am out outD) {y : MethodName} {cc' : ByteArray} {nL' F' Lc' idx : Nat} {ret' : Option FieldType} {av : List Value} {v : Option Value} (hC : Ct l y (.code y cc' nL' ret') F' Lc' (WM D cy am s) (.ref (am 0) :: av) Mm (.inr v, Mm')) (d : decode code pc = .ok (.invokevirtual idx, 3)) (hU : uw_V RL idx RX10 y (.code y cc' nL' ret')) (hyc : y.cls = RX10) (hy : yOk y av.length) (hR : F' + 1 ≤ 2048 ∧ 8 + (nL' + 11) + Lc' ≤ 94400) (hw : (st.map fun v => v.category).sum ≤ 8) (hst : stk = av.reverse ++ .ref (am 0) :: st) (hl : lv_has ls 9 L) (hS : va_S (A0 s) s.heap H locs) (hH : LH D cy E ax am s out outD Mx Mm xo xd H) (hc : cells ≤ 603072) (hs : slots ≤ 7211114)
    (kk : ∀ (H1 : Heap) (locs1 : List Loc), LH D cy E ax am s out outD Mx Mm' xo xd H1 → va_S (A0 s) s.heap H1 locs1 → W p l e room_1 s m #[Value.ref b] below meth c H1 locs1 cells slots Q (F0 m (pc + 3) ls (v.toList ++ st))) : W p l e room_1 s m #[Value.ref b] below meth c H locs cells slots Q (F0 m pc ls stk) := by
  have K' := K
  obtain ⟨b1, b2, b3, b4, b5, b6, b7, b8, b9, b10, b11, b12⟩ := K'
  obtain ⟨g1, g2, g3, g4⟩ := hH
  have hr := va_runV (e := e) (below := below) (meth := meth) (locs := locs) (cells := cells) (slots := slots) (R := room_1) (g := F0 m pc ls stk) (As := av) (rest := st) ⟨b1, b2, b3, b4, b5⟩ (hC H.size) (cwV av.length b5 hU.good rfl rfl rfl ⟨hyc, hy⟩ hR) ⟨pre_blind b11, va_recv b6 g2 (ci := 8) rfl (wd_obj (lm_0 (WM_LM D cy am s)).1 (lm_0 (WM_LM D cy am s)).2), fun U hU hW => ⟨rfl, by rw [hU], ⟨by rw [hU]; exact g2, va_K.moved hW.alike b6, lh_gx K hS hU hW⟩⟩⟩ rfl rfl hl.1 hst (lv_room hw) d ⟨hc, hs⟩
  intro T hT X
  obtain ⟨v', st₀, t, T', L1, h0, X', hL, e1, e2, ⟨hv, hP1, hz, hk⟩, stp⟩ := hr T hT X
  cases hv
  rw [h0] at hz hk
  have hn : ∀ a, a < H.size → (∀ j, j < 12 → am j ≠ a) → ¬ AA (WM D cy am s) H.size a := fun a ha hj z => by
    rcases z with ⟨i, hi, h⟩ | h
    · exact hj i hi h
    · omega
  obtain ⟨t2, a1, c1⟩ := kk T'.heap (locs ++ L1) (by rw [e1]; exact ⟨keepX K g1 hk, hP1, g3.kept (hk out (at_lt g3) (hn _ (at_lt g3) (fun j hj => (b12.2.2.1 j hj).1))), g4.kept (hk outD (at_lt g4) (hn _ (at_lt g4) (fun j hj => (b12.2.2.1 j hj).2)))⟩) (lh_S hS (by rw [e1]; exact hz) (by rw [e1]; exact hk) (fun q h => aam_ge K hS h) hL) T' rfl X'
  exact ⟨t2, stp t2 a1, c1⟩
/-- a method of the class, called as it is -/
theorem law_xcall (K : KT p s m b Ls xs c D cy E ax am out outD) {y : MethodName} {cc' : ByteArray} {nL' F' Lc' idx : Nat} {ret' : Option FieldType} {av : List Value} {v : Option Value} (hC : Ct l y (.code y cc' nL' ret') F' Lc' (WX D cy E ax s) (.ref (ax 0) :: av) Mx (.inr v, Mx')) (d : decode code pc = .ok (.invokevirtual idx, 3)) (hU : uw_V RL idx RX9 y (.code y cc' nL' ret')) (hyc : y.cls = RX9) (hy : yOk y av.length) (hR : F' + 1 ≤ 2048 ∧ 8 + (nL' + 11) + Lc' ≤ 94400) (hw : (st.map fun v => v.category).sum ≤ 8) (hst : stk = av.reverse ++ .ref (ax 0) :: st) (hl : lv_has ls 9 L) (hS : va_S (A0 s) s.heap H locs) (hH : LH D cy E ax am s out outD Mx Mm xo xd H) (hc : cells ≤ 603072) (hs : slots ≤ 7211114)
    (kk : ∀ (H1 : Heap) (locs1 : List Loc), LH D cy E ax am s out outD Mx' Mm xo xd H1 → va_S (A0 s) s.heap H1 locs1 → W p l e room_1 s m #[Value.ref b] below meth c H1 locs1 cells slots Q (F0 m (pc + 3) ls (v.toList ++ st))) : W p l e room_1 s m #[Value.ref b] below meth c H locs cells slots Q (F0 m pc ls stk) := by
  have K' := K
  obtain ⟨b1, b2, b3, b4, b5, b6, b7, b8, b9, b10, b11, b12⟩ := K'
  obtain ⟨g1, g2, g3, g4⟩ := hH
  have hr := va_runV (e := e) (below := below) (meth := meth) (locs := locs) (cells := cells) (slots := slots) (R := room_1) (g := F0 m pc ls stk) (As := av) (rest := st) ⟨b1, b2, b3, b4, b5⟩ (hC H.size) (cwV av.length b5 hU.good rfl rfl rfl ⟨hyc, hy⟩ hR) ⟨pre_blind b10, va_recv b6 g1 (ci := 7) rfl (wd_obj (lx_X (WX_LX D cy E ax s)).1 (lx_X (WX_LX D cy E ax s)).2), fun U hU hW => ⟨rfl, by rw [hU], ⟨by rw [hU]; exact g1, va_K.moved hW.alike b6, lh_gx K hS hU hW⟩⟩⟩ rfl rfl hl.1 hst (lv_room hw) d ⟨hc, hs⟩
  intro T hT X
  obtain ⟨v', st₀, t, T', L1, h0, X', hL, e1, e2, ⟨hv, hP1, hz, hk⟩, stp⟩ := hr T hT X
  cases hv
  rw [h0] at hz hk
  have hn : ∀ a, a < H.size → (∀ i, i < 479 → ax i ≠ a) → ¬ AA (WX D cy E ax s) H.size a := fun a ha hj z => by
    rcases z with ⟨i, hi, h⟩ | h
    · exact hj i hi h
    · omega
  obtain ⟨t2, a1, c1⟩ := kk T'.heap (locs ++ L1) (by rw [e1]; exact ⟨hP1, keepM K g2 (fun q _ h => Or.inl h) hk, g3.kept (hk out (at_lt g3) (hn _ (at_lt g3) (fun j hj => (b12.2.1 j hj).1))), g4.kept (hk outD (at_lt g4) (hn _ (at_lt g4) (fun j hj => (b12.2.1 j hj).2)))⟩) (lh_S hS (by rw [e1]; exact hz) (by rw [e1]; exact hk) (fun q h => aax_ge K hS h) hL) T' rfl X'
  exact ⟨t2, stp t2 a1, c1⟩
/-- an entry of the script -/
theorem law_arg (K : KT p s m b Ls xs c D cy E ax am out outD) (hS : va_S (A0 s) s.heap H locs) {i : Nat} {k : Int} (l0 : ls[0]? = some (.val (.ref b))) (l5 : ls[5]? = some (.val (.int (nI i)))) (hi : i + 5 < Ls) (hL : Ls ≤ 3072) (n : Nat) (hn : Int32.ofInt k = nI n) (hn5 : n ≤ 5) (d0 : decode code pc = .ok (.aload_n 0, 1)) (d1 : decode code (pc + 1) = .ok (.iload 5, 2)) (d2 : decode code (pc + 3) = .ok (.iconst k, 1)) (d3 : decode code (pc + 4) = .ok (.iadd, 1)) (d4 : decode code (pc + 5) = .ok (.iaload, 1))
    (kk : W p l e room_1 s m #[Value.ref b] below meth c H locs cells slots Q (F0 m (pc + 6) ls (.int (xs (i + n)) :: st))) : W p l e room_1 s m #[Value.ref b] below meth c H locs cells slots Q (F0 m pc ls st) := by
  obtain ⟨b1, b2, b3, b4, b5, b6, b7, b8, b9, b10, b11, b12⟩ := K
  refine lv_aload_n b1 b2 d0 rfl l0 ?_
  refine lv_iload b1 b2 d1 l5 ?_
  refine lv_iconst (v := nI n) b1 b2 d2 hn ?_
  refine lv_iadd b1 b2 d3 ?_
  have e1 : nI i + nI n = nI (i + n) := nI_add i n
  rw [e1]
  refine va_sld (A := A0 s) b1 b2 b8 b9 (Nat.not_le.mpr b9) hS (vp_in_nI (by omega) (by omega)) d4 ?_
  rw [nI_clamp (by omega)]
  exact kk
end LWS
