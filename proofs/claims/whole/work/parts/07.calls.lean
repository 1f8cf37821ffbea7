section GC
variable {p : Program} {l : Launch} {e : Env} {s : State} {m : MethodId} {args : Array Value} {below : List Frame} {meth : Method} {c : Code} {F Lc : Nat} {cc : ByteArray} {nL : Nat} {own : String} {ret : Option FieldType} {Ω : Wd} {β : Type} {cv : β → Out} {b : Option β} {pc : Nat} {L : List (Nat × Value)} {st : List Value} {M : Mem}
theorem aa_le {sz sz' q : Nat} (h : sz ≤ sz') (z : AA Ω sz' q) : AA Ω sz q := z.imp_right (Nat.le_trans h)
theorem ok_pre (B : Bd p s m args meth c cc nL own ret Ω) {H : Heap} {locs : List Loc} (hP : va_P (wG Ω) CL (wd Ω M) H) (hS : va_S (AA Ω s.heap.size) s.heap H locs) {U : State} (hU : U.heap = H) (hW : s.WarmedH U.vm) : Ok Ω M U := by
  refine ⟨by rw [hU]; exact hP, va_K.moved hW.alike B.2.2.2.2.2.1, ?_⟩
  exact B.2.2.2.2.2.2.2.2.2.2.1 s U B.2.2.2.2.2.2.1 hW (by rw [hU]; exact hS.1) (fun q hq hn => by rw [hU]; exact hS.2.1 q hq (fun h => h.elim (fun ⟨i, hi, e⟩ => hn i hi e) (fun h => absurd h (Nat.not_le.mpr hq))))
theorem pre_blind (hO : OkW Ω) {av : List Value} {sz : Nat} : FrameBlind (PreC Ω av M sz) := fun a U g mk q => by
  obtain ⟨q0, q1, qP, qK, qX⟩ := q
  exact ⟨q0, q1, qP, va_K.moved (u := U) (U := U.calling g mk a) (Vm.Alike.refl U.vm) qK, hO.2.2.1 U g mk a qX⟩
theorem core_call {R : Room} {Q : State → Prop} {H : Heap} {locs : List Loc} {ls : Array Slot} {st0 rest : List Value} {v : Option Value} {M' : Mem} {a : Array Value} (hr : va_Run p l e R s m args below meth c H locs 0 0 0 0 (F0 m pc ls st0) rest (Qv Ω v M' H.size a) (AA Ω H.size)) (hS : va_S (AA Ω s.heap.size) s.heap H locs)
    (kk : ∀ (H1 : Heap) (locs1 : List Loc), va_P (wG Ω) CL (wd Ω M') H1 → va_S (AA Ω s.heap.size) s.heap H1 locs1 → W p l e R s m args below meth c H1 locs1 0 0 Q (F0 m (pc + 3) ls (v.toList ++ rest))) : W p l e R s m args below meth c H locs 0 0 Q (F0 m pc ls st0) := by
  intro T hT X
  obtain ⟨v', st₀, t, T', L1, h0, X', hL, e1, e2, ⟨hv, hP1, hz, hk⟩, stp⟩ := hr T hT X
  cases hv
  rw [h0] at hz hk
  obtain ⟨t2, a1, b1⟩ := kk T'.heap (locs ++ L1) (by rw [e1]; exact hP1) ⟨Nat.le_trans hS.1 (by rw [e1]; exact hz), fun q h1 h2 => by rw [e1, hk q (Nat.lt_of_lt_of_le h1 hS.1) (fun z => h2 (aa_le hS.1 z))]; exact hS.2.1 q h1 h2, fun q hq => by
      rcases List.mem_append.mp hq with h | h
      · exact hS.2.2 q h
      · exact aa_le hS.1 (hL q h)⟩ T' rfl X'
  exact ⟨t2, stp t2 a1, b1⟩
theorem core_throw {R : Room} {H : Heap} {locs : List Loc} {ls : Array Slot} {st0 rest : List Value} {k : Nat} {M' : Mem} {Qa : State → Outcome → State → Prop} (hQ : ∀ a b c, ¬ Qa a b c) (B : Bd p s m args meth c cc nL own ret Ω) (X0 : ∀ x ∈ c.exceptionTable.toList, False) (hr : vx_Run p l e R s m args below meth c H locs 0 0 1 6 (F0 m pc ls st0) rest Qa (Xv Ω k M' H.size) (AA Ω H.size)) (hS : va_S (AA Ω s.heap.size) s.heap H locs) : W p l e R s m args below meth c H locs 0 0 (TQ s args below Ω (.inl k, M')) (F0 m pc ls st0) := by
  intro T hT X
  rcases hr T hT X with ⟨v, st₀, t, T', L1, h0, X', hL, e1, e2, hf, stp⟩ | ⟨q, st₀, t, T', L1, E, ce, h0, X', hL, e1, e2, ⟨hE, hP1, hz, hk⟩, hce, hcv, hcl, stp⟩
  · exact absurd hf (hQ _ _ _)
  · rw [h0] at hz hk
    have hS1 : va_S (AA Ω s.heap.size) s.heap T'.heap (locs ++ L1) := ⟨Nat.le_trans hS.1 (by rw [e1]; exact hz), fun q h1 h2 => by rw [e1, hk q (Nat.lt_of_lt_of_le h1 hS.1) (fun z => h2 (aa_le hS.1 z))]; exact hS.2.1 q h1 h2, fun q hq => by
      rcases List.mem_append.mp hq with h | h
      · exact hS.2.2 q h
      · exact aa_le hS.1 (hL q h)⟩
    have hO : vx_W p l e R s m args below meth c T'.heap (locs ++ L1) 1 6 (vx_MQ below (fun _ _ _ _ => False) (Xv Ω k M' s.heap.size) args s 1 6 (AA Ω s.heap.size)) (F0 m pc ls rest) q := vx_out (fun x hx => absurd hx (fun h => X0 x h)) B.2.2.2.2.2.2.2.1 (by rw [e1]; exact hce) hcv hcl (fun t2 ht2 _ => ⟨hE, by rw [ht2, e1]; exact hP1, hS1.F ht2⟩) hS1.2.2 (Nat.le_refl 1) (Nat.le_refl 6)
    obtain ⟨t2, a1, b1⟩ := hO T' rfl X'
    exact ⟨t2, stp.trans a1, b1⟩
def yOk (y : MethodName) (n : Nat) : Prop := y.cls ≠ "java/lang/invoke/MethodHandle" ∧ y.cls ≠ "java/lang/invoke/VarHandle" ∧ (parseMethodDescriptor y.desc).map (fun d => d.parameters.length) = some n
/-- a call by the receiver's class, its own method -/
theorem call_V {R : Room} {Q : State → Prop} {y : MethodName} {cc' : ByteArray} {nL' : Nat} {ret' : Option FieldType} {F' Lc' idx o : Nat} {C : String} {T : u_T} {N ci : Nat} {ds : List (Option Value)} {As stk : List Value} {v : Option Value} {M' : Mem} {H : Heap} {locs : List Loc} {ls : Array Slot} (B : Bd p s m args meth c cc nL own ret Ω)
    (hM : ∀ sz, Met l y (.code y cc' nL' ret' :: UW) (Rm F' Lc' false) (PreC Ω (.ref (wA Ω o) :: As) M sz) (Qv Ω v M' sz) 0 0 (AA Ω sz)) (d : decode cc pc = .ok (.invokevirtual idx, 3)) (hU : uw_V own idx C y (.code y cc' nL' ret')) (hyc : y.cls = C) (hy : yOk y As.length) (hR : F' + 1 ≤ R.frames ∧ 8 + (nL' + 11) + Lc' ≤ R.locals) (ho : o < wN Ω) (hc : wC Ω o = oc ci ds) (hcl : CL[ci]? = some (C, T, N)) (hw : (st.map fun v => v.category).sum ≤ 8) (hst : stk = As.reverse ++ .ref (wA Ω o) :: st)
    (hP : va_P (wG Ω) CL (wd Ω M) H) (hS : va_S (AA Ω s.heap.size) s.heap H locs) (hl : lv_has ls nL L)
    (kk : ∀ (H1 : Heap) (locs1 : List Loc), va_P (wG Ω) CL (wd Ω M') H1 → va_S (AA Ω s.heap.size) s.heap H1 locs1 → W p l e R s m args below meth c H1 locs1 0 0 Q (F0 m (pc + 3) ls (v.toList ++ st))) : W p l e R s m args below meth c H locs 0 0 Q (F0 m pc ls stk) :=
  core_call (va_runV (As := As) (rest := st) ⟨B.1, B.2.1, B.2.2.1, B.2.2.2.1, B.2.2.2.2.1⟩ (hM H.size) (cwV As.length B.2.2.2.2.1 hU.good rfl rfl rfl ⟨hyc, hy⟩ hR) ⟨pre_blind B.2.2.2.2.2.2.2.2.2, va_recv B.2.2.2.2.2.1 hP hcl (wd_obj ho hc), fun U hU hW => ⟨rfl, by rw [hU], ok_pre B hP hS hU hW⟩⟩ rfl rfl hl.1 hst (lv_room hw) d ⟨Nat.zero_le _, Nat.zero_le _⟩) hS kk
theorem call_S {R : Room} {Q : State → Prop} {y : MethodName} {cc' : ByteArray} {nL' : Nat} {ret' : Option FieldType} {F' Lc' idx : Nat} {As stk : List Value} {v : Option Value} {M' : Mem} {H : Heap} {locs : List Loc} {ls : Array Slot} (B : Bd p s m args meth c cc nL own ret Ω)
    (hM : ∀ sz, Met l y (.code y cc' nL' ret' :: UW) (Rm F' Lc' false) (PreC Ω As M sz) (Qv Ω v M' sz) 0 0 (AA Ω sz)) (d : decode cc pc = .ok (.invokestatic idx, 3)) (hU : uw_S own idx y (.code y cc' nL' ret')) (hyc : y.cls = own) (hy : yOk y As.length) (hR : F' + 1 ≤ R.frames ∧ 8 + (nL' + 11) + Lc' ≤ R.locals) (hw : (st.map fun v => v.category).sum ≤ 8) (hst : stk = As.reverse ++ st)
    (hP : va_P (wG Ω) CL (wd Ω M) H) (hS : va_S (AA Ω s.heap.size) s.heap H locs) (hl : lv_has ls nL L)
    (kk : ∀ (H1 : Heap) (locs1 : List Loc), va_P (wG Ω) CL (wd Ω M') H1 → va_S (AA Ω s.heap.size) s.heap H1 locs1 → W p l e R s m args below meth c H1 locs1 0 0 Q (F0 m (pc + 3) ls (v.toList ++ st))) : W p l e R s m args below meth c H locs 0 0 Q (F0 m pc ls stk) :=
  core_call (va_runS (As := As) (rest := st) ⟨B.1, B.2.1, B.2.2.1, B.2.2.2.1, B.2.2.2.2.1⟩ (hM H.size) (cwS As.length B.2.2.2.2.1 hU.good rfl rfl rfl ⟨hyc, hy⟩ hR) ⟨pre_blind B.2.2.2.2.2.2.2.2.2, fun U hU hW => ⟨rfl, by rw [hU], ok_pre B hP hS hU hW⟩⟩ rfl rfl hl.1 hst (lv_room hw) d ⟨Nat.zero_le _, Nat.zero_le _⟩) hS kk
theorem call_SN {R : Room} {Q : State → Prop} {y : MethodName} {host : String} {cc' : ByteArray} {nL' : Nat} {ret' : Option FieldType} {F' Lc' idx : Nat} {As stk : List Value} {v : Option Value} {M' : Mem} {H : Heap} {locs : List Loc} {ls : Array Slot} (B : Bd p s m args meth c cc nL own ret Ω)
    (hM : ∀ sz, Met l y (.code y cc' nL' ret' :: UW) (Rm F' Lc' false) (PreC Ω As M sz) (Qv Ω v M' sz) 0 0 (AA Ω sz)) (d : decode cc pc = .ok (.invokestatic idx, 3)) (hN : Cond.methodLinkNest own idx y host ∈ NW) (h2 : Cond.static y ∈ UW) (h3 : Cond.initialized y.cls ∈ UW) (h4 : Cond.code y cc' nL' ret' ∈ UW) (hy : yOk y As.length) (hR : F' + 1 ≤ R.frames ∧ 8 + (nL' + 11) + Lc' ≤ R.locals) (hw : (st.map fun v => v.category).sum ≤ 8) (hst : stk = As.reverse ++ st)
    (hP : va_P (wG Ω) CL (wd Ω M) H) (hS : va_S (AA Ω s.heap.size) s.heap H locs) (hl : lv_has ls nL L)
    (kk : ∀ (H1 : Heap) (locs1 : List Loc), va_P (wG Ω) CL (wd Ω M') H1 → va_S (AA Ω s.heap.size) s.heap H1 locs1 → W p l e R s m args below meth c H1 locs1 0 0 Q (F0 m (pc + 3) ls (v.toList ++ st))) : W p l e R s m args below meth c H locs 0 0 Q (F0 m pc ls stk) :=
  core_call (va_runSN (As := As) (rest := st) (host := host) ⟨B.1, B.2.1, B.2.2.1, B.2.2.2.1, B.2.2.2.2.1⟩ (hM H.size) ⟨va_cnB As.length B.2.2.2.2.1 (uw_c h4) rfl rfl rfl (B.2.2.2.2.2.2.2.2.2.2.2.2 s B.2.2.2.2.2.2.1 _ hN) (B.2.2.2.2.1 _ h3) hy hR, B.2.2.2.2.1 _ h2, trivial⟩ ⟨pre_blind B.2.2.2.2.2.2.2.2.2, fun U hU hW => ⟨rfl, by rw [hU], ok_pre B hP hS hU hW⟩⟩ rfl rfl hl.1 hst (lv_room hw) d ⟨Nat.zero_le _, Nat.zero_le _⟩) hS kk
theorem call_VX {y : MethodName} {cc' : ByteArray} {nL' : Nat} {ret' : Option FieldType} {F' Lc' idx o k : Nat} {C : String} {T : u_T} {N ci : Nat} {ds : List (Option Value)} {As stk : List Value} {M' : Mem} {H : Heap} {locs : List Loc} {ls : Array Slot} (B : Bd p s m args meth c cc nL own ret Ω) (X0 : ∀ x ∈ c.exceptionTable.toList, False)
    (hM : ∀ sz, vx_Met l y (.code y cc' nL' ret' :: UW) (Rm F' Lc' true) (PreC Ω (.ref (wA Ω o) :: As) M sz) (fun _ _ _ _ => False) (Xv Ω k M' sz) 1 6 (AA Ω sz)) (d : decode cc pc = .ok (.invokevirtual idx, 3)) (hU : uw_V own idx C y (.code y cc' nL' ret')) (hyc : y.cls = C) (hy : yOk y As.length) (hR : F' + 1 ≤ F ∧ 8 + (nL' + 11) + Lc' ≤ Lc) (ho : o < wN Ω) (hc : wC Ω o = oc ci ds) (hcl : CL[ci]? = some (C, T, N)) (hw : (st.map fun v => v.category).sum ≤ 8) (hst : stk = As.reverse ++ .ref (wA Ω o) :: st)
    (hP : va_P (wG Ω) CL (wd Ω M) H) (hS : va_S (AA Ω s.heap.size) s.heap H locs) (hl : lv_has ls nL L) : W p l e (Rm F Lc true) s m args below meth c H locs 0 0 (TQ s args below Ω (.inl k, M')) (F0 m pc ls stk) :=
  core_throw (fun _ _ _ h => h) B X0 (vx_runV (As := As) (rest := st) ⟨B.1, B.2.1, B.2.2.1, B.2.2.2.1, B.2.2.2.2.1⟩ (hM H.size) (cwV As.length B.2.2.2.2.1 hU.good rfl rfl rfl ⟨hyc, hy⟩ hR) ⟨pre_blind B.2.2.2.2.2.2.2.2.2, va_recv B.2.2.2.2.2.1 hP hcl (wd_obj ho hc), fun U hU hW => ⟨rfl, by rw [hU], ok_pre B hP hS hU hW⟩⟩ rfl rfl hl.1 hst (lv_room hw) d ⟨Nat.le_refl 1, Nat.le_refl 6⟩) hS
theorem call_SX {y : MethodName} {cc' : ByteArray} {nL' : Nat} {ret' : Option FieldType} {F' Lc' idx k : Nat} {As stk : List Value} {M' : Mem} {H : Heap} {locs : List Loc} {ls : Array Slot} (B : Bd p s m args meth c cc nL own ret Ω) (X0 : ∀ x ∈ c.exceptionTable.toList, False)
    (hM : ∀ sz, vx_Met l y (.code y cc' nL' ret' :: UW) (Rm F' Lc' true) (PreC Ω As M sz) (fun _ _ _ _ => False) (Xv Ω k M' sz) 1 6 (AA Ω sz)) (d : decode cc pc = .ok (.invokestatic idx, 3)) (hU : uw_S own idx y (.code y cc' nL' ret')) (hyc : y.cls = own) (hy : yOk y As.length) (hR : F' + 1 ≤ F ∧ 8 + (nL' + 11) + Lc' ≤ Lc) (hw : (st.map fun v => v.category).sum ≤ 8) (hst : stk = As.reverse ++ st)
    (hP : va_P (wG Ω) CL (wd Ω M) H) (hS : va_S (AA Ω s.heap.size) s.heap H locs) (hl : lv_has ls nL L) : W p l e (Rm F Lc true) s m args below meth c H locs 0 0 (TQ s args below Ω (.inl k, M')) (F0 m pc ls stk) :=
  core_throw (fun _ _ _ h => h) B X0 (vx_runS (As := As) (rest := st) ⟨B.1, B.2.1, B.2.2.1, B.2.2.2.1, B.2.2.2.2.1⟩ (hM H.size) (cwS As.length B.2.2.2.2.1 hU.good rfl rfl rfl ⟨hyc, hy⟩ hR) ⟨pre_blind B.2.2.2.2.2.2.2.2.2, fun U hU hW => ⟨rfl, by rw [hU], ok_pre B hP hS hU hW⟩⟩ rfl rfl hl.1 hst (lv_room hw) d ⟨Nat.le_refl 1, Nat.le_refl 6⟩) hS
/-! calls, as rows of G -/
theorem cl_inv {α : Type} {f : Option (α × Mem)} {k : α → Mem → Option β} {r : β} (h : cl f k = some r) : ∃ a M', f = some (a, M') ∧ k a M' = some r := by
  unfold cl at h
  split at h
  · cases h
  · exact ⟨_, _, rfl, h⟩
def cln {β : Type} (f : Option (Option Nat × Mem)) (kn : Mem → Option β) (ks : Nat → Mem → Option β) : Option β := match f with
  | none => none
  | some (none, M') => kn M'
  | some (some o, M') => ks o M'
theorem cln_inv {f : Option (Option Nat × Mem)} {kn : Mem → Option β} {ks : Nat → Mem → Option β} {r : β} (h : cln f kn ks = some r) : (∃ M', f = some (none, M') ∧ kn M' = some r) ∨ ∃ o M', f = some (some o, M') ∧ ks o M' = some r := by
  unfold cln at h
  split at h
  · cases h
  · exact Or.inl ⟨_, rfl, h⟩
  · exact Or.inr ⟨_, _, rfl, h⟩
theorem clx_inv {α γ : Type} {f : Option ((Nat ⊕ α) × Mem)} {k : α → Mem → Option ((Nat ⊕ γ) × Mem)} {r : (Nat ⊕ γ) × Mem} (h : clx f k = some r) : (∃ a M', f = some (.inr a, M') ∧ k a M' = some r) ∨ ∃ x M', f = some (.inl x, M') ∧ r = (.inl x, M') := by
  unfold clx at h
  split at h
  · cases h
  · exact Or.inl ⟨_, _, rfl, h⟩
  · exact Or.inr ⟨_, _, rfl, (Option.some.inj h).symm⟩

theorem g_cVI {y : MethodName} {cc' : ByteArray} {nL' : Nat} {ret' : Option FieldType} {F' Lc' idx : Nat} (o : Nat) (As : List Value) (st : List Value) {stk : List Value} {C : String} {T : u_T} {N ci : Nat} {ds : List (Option Value)} {f : Option (Int32 × Mem)} {bd : Int32 → Mem → Option β} (hC : ∀ r, f = some r → Ct l y (.code y cc' nL' ret') F' Lc' Ω (.ref (wA Ω o) :: As) M (cvI r)) (d : decode cc pc = .ok (.invokevirtual idx, 3)) (hU : uw_V own idx C y (.code y cc' nL' ret')) (hyc : y.cls = C) (hy : yOk y As.length) (hR : F' + 1 ≤ F ∧ 8 + (nL' + 11) + Lc' ≤ Lc) (ho : o < wN Ω) (hc : wC Ω o = oc ci ds) (hcl : CL[ci]? = some (C, T, N)) (hw : (st.map fun v => v.category).sum ≤ 8) (hst : stk = As.reverse ++ .ref (wA Ω o) :: st) (n : Nat) (hn : pc + 3 = n) (k : ∀ a M, G p l e s m args below meth c F Lc cc nL own ret Ω cv (bd a M) n L (.int a :: st) M) : G p l e s m args below meth c F Lc cc nL own ret Ω cv (cl f bd) pc L stk M := fun B X r hr H locs ls hP hS hl => by
  subst hn
  obtain ⟨a, M', hf, hb⟩ := cl_inv hr
  exact call_V B (hC _ hf) d hU hyc hy hR ho hc hcl hw hst hP hS hl (fun H1 locs1 hP1 hS1 => k a M' B X r hb H1 locs1 ls hP1 hS1 hl)
theorem g_xVI {y : MethodName} {cc' : ByteArray} {nL' : Nat} {ret' : Option FieldType} {F' Lc' idx : Nat} (o : Nat) (As : List Value) (st : List Value) {stk : List Value} {C : String} {T : u_T} {N ci : Nat} {ds : List (Option Value)} {γ : Type} {cx : (Nat ⊕ γ) × Mem → Out} {f : Option ((Nat ⊕ Int32) × Mem)} {bd : Int32 → Mem → Option ((Nat ⊕ γ) × Mem)} (hC : ∀ r, f = some r → Ct l y (.code y cc' nL' ret') F' Lc' Ω (.ref (wA Ω o) :: As) M (cvIX r)) (hcx : ∀ x M, cx (.inl x, M) = (.inl x, M)) (d : decode cc pc = .ok (.invokevirtual idx, 3)) (hU : uw_V own idx C y (.code y cc' nL' ret')) (hyc : y.cls = C) (hy : yOk y As.length) (hR : F' + 1 ≤ F ∧ 8 + (nL' + 11) + Lc' ≤ Lc) (ho : o < wN Ω) (hc : wC Ω o = oc ci ds) (hcl : CL[ci]? = some (C, T, N)) (hw : (st.map fun v => v.category).sum ≤ 8) (hst : stk = As.reverse ++ .ref (wA Ω o) :: st) (n : Nat) (hn : pc + 3 = n) (k : ∀ a M, G p l e s m args below meth c F Lc cc nL own ret Ω cx (bd a M) n L (.int a :: st) M) : G p l e s m args below meth c F Lc cc nL own ret Ω cx (clx f bd) pc L stk M := fun B X r hr H locs ls hP hS hl => by
  subst hn
  rcases clx_inv hr with ⟨a, M', hf, hb⟩ | ⟨x, M', hf, rfl⟩
  · exact call_V B (hC _ hf) d hU hyc hy hR ho hc hcl hw hst hP hS hl (fun H1 locs1 hP1 hS1 => k a M' B X r hb H1 locs1 ls hP1 hS1 hl)
  · rw [hcx x M']
    exact call_VX B X (hC _ hf) d hU hyc hy hR ho hc hcl hw hst hP hS hl
theorem g_cVV {y : MethodName} {cc' : ByteArray} {nL' : Nat} {ret' : Option FieldType} {F' Lc' idx : Nat} (o : Nat) (As : List Value) (st : List Value) {stk : List Value} {C : String} {T : u_T} {N ci : Nat} {ds : List (Option Value)} {f : Option (Unit × Mem)} {bd : Unit → Mem → Option β} (hC : ∀ r, f = some r → Ct l y (.code y cc' nL' ret') F' Lc' Ω (.ref (wA Ω o) :: As) M (cvV r)) (d : decode cc pc = .ok (.invokevirtual idx, 3)) (hU : uw_V own idx C y (.code y cc' nL' ret')) (hyc : y.cls = C) (hy : yOk y As.length) (hR : F' + 1 ≤ F ∧ 8 + (nL' + 11) + Lc' ≤ Lc) (ho : o < wN Ω) (hc : wC Ω o = oc ci ds) (hcl : CL[ci]? = some (C, T, N)) (hw : (st.map fun v => v.category).sum ≤ 8) (hst : stk = As.reverse ++ .ref (wA Ω o) :: st) (n : Nat) (hn : pc + 3 = n) (k : ∀ a M, G p l e s m args below meth c F Lc cc nL own ret Ω cv (bd a M) n L st M) : G p l e s m args below meth c F Lc cc nL own ret Ω cv (cl f bd) pc L stk M := fun B X r hr H locs ls hP hS hl => by
  subst hn
  obtain ⟨a, M', hf, hb⟩ := cl_inv hr
  exact call_V B (hC _ hf) d hU hyc hy hR ho hc hcl hw hst hP hS hl (fun H1 locs1 hP1 hS1 => k a M' B X r hb H1 locs1 ls hP1 hS1 hl)
theorem g_xVV {y : MethodName} {cc' : ByteArray} {nL' : Nat} {ret' : Option FieldType} {F' Lc' idx : Nat} (o : Nat) (As : List Value) (st : List Value) {stk : List Value} {C : String} {T : u_T} {N ci : Nat} {ds : List (Option Value)} {γ : Type} {cx : (Nat ⊕ γ) × Mem → Out} {f : Option ((Nat ⊕ Unit) × Mem)} {bd : Unit → Mem → Option ((Nat ⊕ γ) × Mem)} (hC : ∀ r, f = some r → Ct l y (.code y cc' nL' ret') F' Lc' Ω (.ref (wA Ω o) :: As) M (cvVX r)) (hcx : ∀ x M, cx (.inl x, M) = (.inl x, M)) (d : decode cc pc = .ok (.invokevirtual idx, 3)) (hU : uw_V own idx C y (.code y cc' nL' ret')) (hyc : y.cls = C) (hy : yOk y As.length) (hR : F' + 1 ≤ F ∧ 8 + (nL' + 11) + Lc' ≤ Lc) (ho : o < wN Ω) (hc : wC Ω o = oc ci ds) (hcl : CL[ci]? = some (C, T, N)) (hw : (st.map fun v => v.category).sum ≤ 8) (hst : stk = As.reverse ++ .ref (wA Ω o) :: st) (n : Nat) (hn : pc + 3 = n) (k : ∀ a M, G p l e s m args below meth c F Lc cc nL own ret Ω cx (bd a M) n L (st) M) : G p l e s m args below meth c F Lc cc nL own ret Ω cx (clx f bd) pc L stk M := fun B X r hr H locs ls hP hS hl => by
  subst hn
  rcases clx_inv hr with ⟨a, M', hf, hb⟩ | ⟨x, M', hf, rfl⟩
  · exact call_V B (hC _ hf) d hU hyc hy hR ho hc hcl hw hst hP hS hl (fun H1 locs1 hP1 hS1 => k a M' B X r hb H1 locs1 ls hP1 hS1 hl)
  · rw [hcx x M']
    exact call_VX B X (hC _ hf) d hU hyc hy hR ho hc hcl hw hst hP hS hl
theorem g_cVR {y : MethodName} {cc' : ByteArray} {nL' : Nat} {ret' : Option FieldType} {F' Lc' idx : Nat} (o : Nat) (As : List Value) (st : List Value) {stk : List Value} {C : String} {T : u_T} {N ci : Nat} {ds : List (Option Value)} {f : Option (Nat × Mem)} {bd : Nat → Mem → Option β} (hC : ∀ r, f = some r → Ct l y (.code y cc' nL' ret') F' Lc' Ω (.ref (wA Ω o) :: As) M ((cvR Ω) r)) (d : decode cc pc = .ok (.invokevirtual idx, 3)) (hU : uw_V own idx C y (.code y cc' nL' ret')) (hyc : y.cls = C) (hy : yOk y As.length) (hR : F' + 1 ≤ F ∧ 8 + (nL' + 11) + Lc' ≤ Lc) (ho : o < wN Ω) (hc : wC Ω o = oc ci ds) (hcl : CL[ci]? = some (C, T, N)) (hw : (st.map fun v => v.category).sum ≤ 8) (hst : stk = As.reverse ++ .ref (wA Ω o) :: st) (n : Nat) (hn : pc + 3 = n) (k : ∀ a M, G p l e s m args below meth c F Lc cc nL own ret Ω cv (bd a M) n L (.ref (wA Ω a) :: st) M) : G p l e s m args below meth c F Lc cc nL own ret Ω cv (cl f bd) pc L stk M := fun B X r hr H locs ls hP hS hl => by
  subst hn
  obtain ⟨a, M', hf, hb⟩ := cl_inv hr
  exact call_V B (hC _ hf) d hU hyc hy hR ho hc hcl hw hst hP hS hl (fun H1 locs1 hP1 hS1 => k a M' B X r hb H1 locs1 ls hP1 hS1 hl)
theorem g_xVR {y : MethodName} {cc' : ByteArray} {nL' : Nat} {ret' : Option FieldType} {F' Lc' idx : Nat} (o : Nat) (As : List Value) (st : List Value) {stk : List Value} {C : String} {T : u_T} {N ci : Nat} {ds : List (Option Value)} {γ : Type} {cx : (Nat ⊕ γ) × Mem → Out} {f : Option ((Nat ⊕ Nat) × Mem)} {bd : Nat → Mem → Option ((Nat ⊕ γ) × Mem)} (hC : ∀ r, f = some r → Ct l y (.code y cc' nL' ret') F' Lc' Ω (.ref (wA Ω o) :: As) M ((cvRX Ω) r)) (hcx : ∀ x M, cx (.inl x, M) = (.inl x, M)) (d : decode cc pc = .ok (.invokevirtual idx, 3)) (hU : uw_V own idx C y (.code y cc' nL' ret')) (hyc : y.cls = C) (hy : yOk y As.length) (hR : F' + 1 ≤ F ∧ 8 + (nL' + 11) + Lc' ≤ Lc) (ho : o < wN Ω) (hc : wC Ω o = oc ci ds) (hcl : CL[ci]? = some (C, T, N)) (hw : (st.map fun v => v.category).sum ≤ 8) (hst : stk = As.reverse ++ .ref (wA Ω o) :: st) (n : Nat) (hn : pc + 3 = n) (k : ∀ a M, G p l e s m args below meth c F Lc cc nL own ret Ω cx (bd a M) n L (.ref (wA Ω a) :: st) M) : G p l e s m args below meth c F Lc cc nL own ret Ω cx (clx f bd) pc L stk M := fun B X r hr H locs ls hP hS hl => by
  subst hn
  rcases clx_inv hr with ⟨a, M', hf, hb⟩ | ⟨x, M', hf, rfl⟩
  · exact call_V B (hC _ hf) d hU hyc hy hR ho hc hcl hw hst hP hS hl (fun H1 locs1 hP1 hS1 => k a M' B X r hb H1 locs1 ls hP1 hS1 hl)
  · rw [hcx x M']
    exact call_VX B X (hC _ hf) d hU hyc hy hR ho hc hcl hw hst hP hS hl
theorem g_cSI {y : MethodName} {cc' : ByteArray} {nL' : Nat} {ret' : Option FieldType} {F' Lc' idx : Nat} (As : List Value) (st : List Value) {stk : List Value} {f : Option (Int32 × Mem)} {bd : Int32 → Mem → Option β} (hC : ∀ r, f = some r → Ct l y (.code y cc' nL' ret') F' Lc' Ω (As) M (cvI r)) (d : decode cc pc = .ok (.invokestatic idx, 3)) (hU : uw_S own idx y (.code y cc' nL' ret')) (hyc : y.cls = own) (hy : yOk y As.length) (hR : F' + 1 ≤ F ∧ 8 + (nL' + 11) + Lc' ≤ Lc) (hw : (st.map fun v => v.category).sum ≤ 8) (hst : stk = As.reverse ++ st) (n : Nat) (hn : pc + 3 = n) (k : ∀ a M, G p l e s m args below meth c F Lc cc nL own ret Ω cv (bd a M) n L (.int a :: st) M) : G p l e s m args below meth c F Lc cc nL own ret Ω cv (cl f bd) pc L stk M := fun B X r hr H locs ls hP hS hl => by
  subst hn
  obtain ⟨a, M', hf, hb⟩ := cl_inv hr
  exact call_S B (hC _ hf) d hU hyc hy hR hw hst hP hS hl (fun H1 locs1 hP1 hS1 => k a M' B X r hb H1 locs1 ls hP1 hS1 hl)
theorem g_xSI {y : MethodName} {cc' : ByteArray} {nL' : Nat} {ret' : Option FieldType} {F' Lc' idx : Nat} (As : List Value) (st : List Value) {stk : List Value} {γ : Type} {cx : (Nat ⊕ γ) × Mem → Out} {f : Option ((Nat ⊕ Int32) × Mem)} {bd : Int32 → Mem → Option ((Nat ⊕ γ) × Mem)} (hC : ∀ r, f = some r → Ct l y (.code y cc' nL' ret') F' Lc' Ω (As) M (cvIX r)) (hcx : ∀ x M, cx (.inl x, M) = (.inl x, M)) (d : decode cc pc = .ok (.invokestatic idx, 3)) (hU : uw_S own idx y (.code y cc' nL' ret')) (hyc : y.cls = own) (hy : yOk y As.length) (hR : F' + 1 ≤ F ∧ 8 + (nL' + 11) + Lc' ≤ Lc) (hw : (st.map fun v => v.category).sum ≤ 8) (hst : stk = As.reverse ++ st) (n : Nat) (hn : pc + 3 = n) (k : ∀ a M, G p l e s m args below meth c F Lc cc nL own ret Ω cx (bd a M) n L (.int a :: st) M) : G p l e s m args below meth c F Lc cc nL own ret Ω cx (clx f bd) pc L stk M := fun B X r hr H locs ls hP hS hl => by
  subst hn
  rcases clx_inv hr with ⟨a, M', hf, hb⟩ | ⟨x, M', hf, rfl⟩
  · exact call_S B (hC _ hf) d hU hyc hy hR hw hst hP hS hl (fun H1 locs1 hP1 hS1 => k a M' B X r hb H1 locs1 ls hP1 hS1 hl)
  · rw [hcx x M']
    exact call_SX B X (hC _ hf) d hU hyc hy hR hw hst hP hS hl
theorem g_cSV {y : MethodName} {cc' : ByteArray} {nL' : Nat} {ret' : Option FieldType} {F' Lc' idx : Nat} (As : List Value) (st : List Value) {stk : List Value} {f : Option (Unit × Mem)} {bd : Unit → Mem → Option β} (hC : ∀ r, f = some r → Ct l y (.code y cc' nL' ret') F' Lc' Ω (As) M (cvV r)) (d : decode cc pc = .ok (.invokestatic idx, 3)) (hU : uw_S own idx y (.code y cc' nL' ret')) (hyc : y.cls = own) (hy : yOk y As.length) (hR : F' + 1 ≤ F ∧ 8 + (nL' + 11) + Lc' ≤ Lc) (hw : (st.map fun v => v.category).sum ≤ 8) (hst : stk = As.reverse ++ st) (n : Nat) (hn : pc + 3 = n) (k : ∀ a M, G p l e s m args below meth c F Lc cc nL own ret Ω cv (bd a M) n L st M) : G p l e s m args below meth c F Lc cc nL own ret Ω cv (cl f bd) pc L stk M := fun B X r hr H locs ls hP hS hl => by
  subst hn
  obtain ⟨a, M', hf, hb⟩ := cl_inv hr
  exact call_S B (hC _ hf) d hU hyc hy hR hw hst hP hS hl (fun H1 locs1 hP1 hS1 => k a M' B X r hb H1 locs1 ls hP1 hS1 hl)
theorem g_xSV {y : MethodName} {cc' : ByteArray} {nL' : Nat} {ret' : Option FieldType} {F' Lc' idx : Nat} (As : List Value) (st : List Value) {stk : List Value} {γ : Type} {cx : (Nat ⊕ γ) × Mem → Out} {f : Option ((Nat ⊕ Unit) × Mem)} {bd : Unit → Mem → Option ((Nat ⊕ γ) × Mem)} (hC : ∀ r, f = some r → Ct l y (.code y cc' nL' ret') F' Lc' Ω (As) M (cvVX r)) (hcx : ∀ x M, cx (.inl x, M) = (.inl x, M)) (d : decode cc pc = .ok (.invokestatic idx, 3)) (hU : uw_S own idx y (.code y cc' nL' ret')) (hyc : y.cls = own) (hy : yOk y As.length) (hR : F' + 1 ≤ F ∧ 8 + (nL' + 11) + Lc' ≤ Lc) (hw : (st.map fun v => v.category).sum ≤ 8) (hst : stk = As.reverse ++ st) (n : Nat) (hn : pc + 3 = n) (k : ∀ a M, G p l e s m args below meth c F Lc cc nL own ret Ω cx (bd a M) n L (st) M) : G p l e s m args below meth c F Lc cc nL own ret Ω cx (clx f bd) pc L stk M := fun B X r hr H locs ls hP hS hl => by
  subst hn
  rcases clx_inv hr with ⟨a, M', hf, hb⟩ | ⟨x, M', hf, rfl⟩
  · exact call_S B (hC _ hf) d hU hyc hy hR hw hst hP hS hl (fun H1 locs1 hP1 hS1 => k a M' B X r hb H1 locs1 ls hP1 hS1 hl)
  · rw [hcx x M']
    exact call_SX B X (hC _ hf) d hU hyc hy hR hw hst hP hS hl
theorem g_cSR {y : MethodName} {cc' : ByteArray} {nL' : Nat} {ret' : Option FieldType} {F' Lc' idx : Nat} (As : List Value) (st : List Value) {stk : List Value} {f : Option (Nat × Mem)} {bd : Nat → Mem → Option β} (hC : ∀ r, f = some r → Ct l y (.code y cc' nL' ret') F' Lc' Ω (As) M ((cvR Ω) r)) (d : decode cc pc = .ok (.invokestatic idx, 3)) (hU : uw_S own idx y (.code y cc' nL' ret')) (hyc : y.cls = own) (hy : yOk y As.length) (hR : F' + 1 ≤ F ∧ 8 + (nL' + 11) + Lc' ≤ Lc) (hw : (st.map fun v => v.category).sum ≤ 8) (hst : stk = As.reverse ++ st) (n : Nat) (hn : pc + 3 = n) (k : ∀ a M, G p l e s m args below meth c F Lc cc nL own ret Ω cv (bd a M) n L (.ref (wA Ω a) :: st) M) : G p l e s m args below meth c F Lc cc nL own ret Ω cv (cl f bd) pc L stk M := fun B X r hr H locs ls hP hS hl => by
  subst hn
  obtain ⟨a, M', hf, hb⟩ := cl_inv hr
  exact call_S B (hC _ hf) d hU hyc hy hR hw hst hP hS hl (fun H1 locs1 hP1 hS1 => k a M' B X r hb H1 locs1 ls hP1 hS1 hl)
theorem g_xSR {y : MethodName} {cc' : ByteArray} {nL' : Nat} {ret' : Option FieldType} {F' Lc' idx : Nat} (As : List Value) (st : List Value) {stk : List Value} {γ : Type} {cx : (Nat ⊕ γ) × Mem → Out} {f : Option ((Nat ⊕ Nat) × Mem)} {bd : Nat → Mem → Option ((Nat ⊕ γ) × Mem)} (hC : ∀ r, f = some r → Ct l y (.code y cc' nL' ret') F' Lc' Ω (As) M ((cvRX Ω) r)) (hcx : ∀ x M, cx (.inl x, M) = (.inl x, M)) (d : decode cc pc = .ok (.invokestatic idx, 3)) (hU : uw_S own idx y (.code y cc' nL' ret')) (hyc : y.cls = own) (hy : yOk y As.length) (hR : F' + 1 ≤ F ∧ 8 + (nL' + 11) + Lc' ≤ Lc) (hw : (st.map fun v => v.category).sum ≤ 8) (hst : stk = As.reverse ++ st) (n : Nat) (hn : pc + 3 = n) (k : ∀ a M, G p l e s m args below meth c F Lc cc nL own ret Ω cx (bd a M) n L (.ref (wA Ω a) :: st) M) : G p l e s m args below meth c F Lc cc nL own ret Ω cx (clx f bd) pc L stk M := fun B X r hr H locs ls hP hS hl => by
  subst hn
  rcases clx_inv hr with ⟨a, M', hf, hb⟩ | ⟨x, M', hf, rfl⟩
  · exact call_S B (hC _ hf) d hU hyc hy hR hw hst hP hS hl (fun H1 locs1 hP1 hS1 => k a M' B X r hb H1 locs1 ls hP1 hS1 hl)
  · rw [hcx x M']
    exact call_SX B X (hC _ hf) d hU hyc hy hR hw hst hP hS hl
theorem g_cSNI {y : MethodName} {cc' : ByteArray} {nL' : Nat} {ret' : Option FieldType} {F' Lc' idx : Nat} (As : List Value) (st : List Value) {stk : List Value} {f : Option (Int32 × Mem)} {bd : Int32 → Mem → Option β} (hC : ∀ r, f = some r → Ct l y (.code y cc' nL' ret') F' Lc' Ω (As) M (cvI r)) {host : String} (d : decode cc pc = .ok (.invokestatic idx, 3)) (hN : Cond.methodLinkNest own idx y host ∈ NW) (h2 : Cond.static y ∈ UW) (h3 : Cond.initialized y.cls ∈ UW) (h4 : Cond.code y cc' nL' ret' ∈ UW) (hy : yOk y As.length) (hR : F' + 1 ≤ F ∧ 8 + (nL' + 11) + Lc' ≤ Lc) (hw : (st.map fun v => v.category).sum ≤ 8) (hst : stk = As.reverse ++ st) (n : Nat) (hn : pc + 3 = n) (k : ∀ a M, G p l e s m args below meth c F Lc cc nL own ret Ω cv (bd a M) n L (.int a :: st) M) : G p l e s m args below meth c F Lc cc nL own ret Ω cv (cl f bd) pc L stk M := fun B X r hr H locs ls hP hS hl => by
  subst hn
  obtain ⟨a, M', hf, hb⟩ := cl_inv hr
  exact call_SN B (hC _ hf) d hN h2 h3 h4 hy hR hw hst hP hS hl (fun H1 locs1 hP1 hS1 => k a M' B X r hb H1 locs1 ls hP1 hS1 hl)
theorem g_cSNV {y : MethodName} {cc' : ByteArray} {nL' : Nat} {ret' : Option FieldType} {F' Lc' idx : Nat} (As : List Value) (st : List Value) {stk : List Value} {f : Option (Unit × Mem)} {bd : Unit → Mem → Option β} (hC : ∀ r, f = some r → Ct l y (.code y cc' nL' ret') F' Lc' Ω (As) M (cvV r)) {host : String} (d : decode cc pc = .ok (.invokestatic idx, 3)) (hN : Cond.methodLinkNest own idx y host ∈ NW) (h2 : Cond.static y ∈ UW) (h3 : Cond.initialized y.cls ∈ UW) (h4 : Cond.code y cc' nL' ret' ∈ UW) (hy : yOk y As.length) (hR : F' + 1 ≤ F ∧ 8 + (nL' + 11) + Lc' ≤ Lc) (hw : (st.map fun v => v.category).sum ≤ 8) (hst : stk = As.reverse ++ st) (n : Nat) (hn : pc + 3 = n) (k : ∀ a M, G p l e s m args below meth c F Lc cc nL own ret Ω cv (bd a M) n L st M) : G p l e s m args below meth c F Lc cc nL own ret Ω cv (cl f bd) pc L stk M := fun B X r hr H locs ls hP hS hl => by
  subst hn
  obtain ⟨a, M', hf, hb⟩ := cl_inv hr
  exact call_SN B (hC _ hf) d hN h2 h3 h4 hy hR hw hst hP hS hl (fun H1 locs1 hP1 hS1 => k a M' B X r hb H1 locs1 ls hP1 hS1 hl)
theorem g_cSNR {y : MethodName} {cc' : ByteArray} {nL' : Nat} {ret' : Option FieldType} {F' Lc' idx : Nat} (As : List Value) (st : List Value) {stk : List Value} {f : Option (Nat × Mem)} {bd : Nat → Mem → Option β} (hC : ∀ r, f = some r → Ct l y (.code y cc' nL' ret') F' Lc' Ω (As) M ((cvR Ω) r)) {host : String} (d : decode cc pc = .ok (.invokestatic idx, 3)) (hN : Cond.methodLinkNest own idx y host ∈ NW) (h2 : Cond.static y ∈ UW) (h3 : Cond.initialized y.cls ∈ UW) (h4 : Cond.code y cc' nL' ret' ∈ UW) (hy : yOk y As.length) (hR : F' + 1 ≤ F ∧ 8 + (nL' + 11) + Lc' ≤ Lc) (hw : (st.map fun v => v.category).sum ≤ 8) (hst : stk = As.reverse ++ st) (n : Nat) (hn : pc + 3 = n) (k : ∀ a M, G p l e s m args below meth c F Lc cc nL own ret Ω cv (bd a M) n L (.ref (wA Ω a) :: st) M) : G p l e s m args below meth c F Lc cc nL own ret Ω cv (cl f bd) pc L stk M := fun B X r hr H locs ls hP hS hl => by
  subst hn
  obtain ⟨a, M', hf, hb⟩ := cl_inv hr
  exact call_SN B (hC _ hf) d hN h2 h3 h4 hy hR hw hst hP hS hl (fun H1 locs1 hP1 hS1 => k a M' B X r hb H1 locs1 ls hP1 hS1 hl)
theorem g_cVN {y : MethodName} {cc' : ByteArray} {nL' : Nat} {ret' : Option FieldType} {F' Lc' idx : Nat} (o : Nat) (As : List Value) (st : List Value) {stk : List Value} {C : String} {T : u_T} {N ci : Nat} {ds : List (Option Value)} {f : Option (Option Nat × Mem)} {kn : Mem → Option β} {ks : Nat → Mem → Option β} (hC : ∀ r, f = some r → Ct l y (.code y cc' nL' ret') F' Lc' Ω (.ref (wA Ω o) :: As) M (cvN Ω r)) (d : decode cc pc = .ok (.invokevirtual idx, 3)) (hU : uw_V own idx C y (.code y cc' nL' ret')) (hyc : y.cls = C) (hy : yOk y As.length) (hR : F' + 1 ≤ F ∧ 8 + (nL' + 11) + Lc' ≤ Lc) (ho : o < wN Ω) (hc : wC Ω o = oc ci ds) (hcl : CL[ci]? = some (C, T, N)) (hw : (st.map fun v => v.category).sum ≤ 8) (hst : stk = As.reverse ++ .ref (wA Ω o) :: st) (n : Nat) (hn : pc + 3 = n) (k0 : ∀ M, G p l e s m args below meth c F Lc cc nL own ret Ω cv (kn M) n L (.null :: st) M) (k1 : ∀ a M, G p l e s m args below meth c F Lc cc nL own ret Ω cv (ks a M) n L (.ref (wA Ω a) :: st) M) : G p l e s m args below meth c F Lc cc nL own ret Ω cv (cln f kn ks) pc L stk M := fun B X r hr H locs ls hP hS hl => by
  subst hn
  rcases cln_inv hr with ⟨M', hf, hb⟩ | ⟨a, M', hf, hb⟩
  · exact call_V B (hC _ hf) d hU hyc hy hR ho hc hcl hw hst hP hS hl (fun H1 locs1 hP1 hS1 => k0 M' B X r hb H1 locs1 ls hP1 hS1 hl)
  · exact call_V B (hC _ hf) d hU hyc hy hR ho hc hcl hw hst hP hS hl (fun H1 locs1 hP1 hS1 => k1 a M' B X r hb H1 locs1 ls hP1 hS1 hl)
def clp {α β : Type} (f : Option α) (k : α → Option β) : Option β := match f with
  | none => none
  | some r => k r
theorem clp_inv {α : Type} {f : Option α} {k : α → Option β} {r : β} (h : clp f k = some r) : ∃ a, f = some a ∧ k a = some r := by
  unfold clp at h
  split at h
  · cases h
  · exact ⟨_, rfl, h⟩
def clpn {β : Type} (f : Option (Option Nat)) (kn : Option β) (ks : Nat → Option β) : Option β := match f with
  | none => none
  | some none => kn
  | some (some o) => ks o
theorem clpn_inv {f : Option (Option Nat)} {kn : Option β} {ks : Nat → Option β} {r : β} (h : clpn f kn ks = some r) : (f = some none ∧ kn = some r) ∨ ∃ o, f = some (some o) ∧ ks o = some r := by
  unfold clpn at h
  split at h
  · cases h
  · exact Or.inl ⟨rfl, h⟩
  · exact Or.inr ⟨_, rfl, h⟩
/-- a callee that writes nothing and may throw: in a caller that has written nothing, and in one that has -/
def clpx {α γ : Type} (f : Option (Nat ⊕ α)) (k : α → Option (Nat ⊕ γ)) : Option (Nat ⊕ γ) := match f with
  | none => none
  | some (.inr r) => k r
  | some (.inl x) => some (.inl x)
def clpm {α γ : Type} (M : Mem) (f : Option (Nat ⊕ α)) (k : α → Option ((Nat ⊕ γ) × Mem)) : Option ((Nat ⊕ γ) × Mem) := match f with
  | none => none
  | some (.inr r) => k r
  | some (.inl x) => some (.inl x, M)
theorem clpx_inv {α γ : Type} {f : Option (Nat ⊕ α)} {k : α → Option (Nat ⊕ γ)} {r : Nat ⊕ γ} (h : clpx f k = some r) : (∃ a, f = some (.inr a) ∧ k a = some r) ∨ ∃ x, f = some (.inl x) ∧ r = .inl x := by
  unfold clpx at h
  split at h
  · cases h
  · exact Or.inl ⟨_, rfl, h⟩
  · exact Or.inr ⟨_, rfl, (Option.some.inj h).symm⟩
theorem clpm_inv {α γ : Type} {f : Option (Nat ⊕ α)} {k : α → Option ((Nat ⊕ γ) × Mem)} {r : (Nat ⊕ γ) × Mem} (h : clpm M f k = some r) : (∃ a, f = some (.inr a) ∧ k a = some r) ∨ ∃ x, f = some (.inl x) ∧ r = (.inl x, M) := by
  unfold clpm at h
  split at h
  · cases h
  · exact Or.inl ⟨_, rfl, h⟩
  · exact Or.inr ⟨_, rfl, (Option.some.inj h).symm⟩
theorem p_cVI {y : MethodName} {cc' : ByteArray} {nL' : Nat} {ret' : Option FieldType} {F' Lc' idx : Nat} (o : Nat) (As : List Value) (st : List Value) {stk : List Value} {C : String} {T : u_T} {N ci : Nat} {ds : List (Option Value)} {f : Option Int32} {bd : Int32 → Option β} (hC : ∀ r, f = some r → Ct l y (.code y cc' nL' ret') F' Lc' Ω (.ref (wA Ω o) :: As) M ((cpI M) r)) (d : decode cc pc = .ok (.invokevirtual idx, 3)) (hU : uw_V own idx C y (.code y cc' nL' ret')) (hyc : y.cls = C) (hy : yOk y As.length) (hR : F' + 1 ≤ F ∧ 8 + (nL' + 11) + Lc' ≤ Lc) (ho : o < wN Ω) (hc : wC Ω o = oc ci ds) (hcl : CL[ci]? = some (C, T, N)) (hw : (st.map fun v => v.category).sum ≤ 8) (hst : stk = As.reverse ++ .ref (wA Ω o) :: st) (n : Nat) (hn : pc + 3 = n) (k : ∀ a, G p l e s m args below meth c F Lc cc nL own ret Ω cv (bd a) n L (.int a :: st) M) : G p l e s m args below meth c F Lc cc nL own ret Ω cv (clp f bd) pc L stk M := fun B X r hr H locs ls hP hS hl => by
  subst hn
  obtain ⟨a, hf, hb⟩ := clp_inv hr
  exact call_V B (hC _ hf) d hU hyc hy hR ho hc hcl hw hst hP hS hl (fun H1 locs1 hP1 hS1 => k a B X r hb H1 locs1 ls hP1 hS1 hl)
theorem p_xVI {y : MethodName} {cc' : ByteArray} {nL' : Nat} {ret' : Option FieldType} {F' Lc' idx : Nat} (o : Nat) (As : List Value) (st : List Value) {stk : List Value} {C : String} {T : u_T} {N ci : Nat} {ds : List (Option Value)} {γ : Type} {cx : Nat ⊕ γ → Out} {f : Option (Nat ⊕ Int32)} {bd : Int32 → Option (Nat ⊕ γ)} (hC : ∀ r, f = some r → Ct l y (.code y cc' nL' ret') F' Lc' Ω (.ref (wA Ω o) :: As) M ((cpIX M) r)) (hcx : ∀ x, cx (.inl x) = (.inl x, M)) (d : decode cc pc = .ok (.invokevirtual idx, 3)) (hU : uw_V own idx C y (.code y cc' nL' ret')) (hyc : y.cls = C) (hy : yOk y As.length) (hR : F' + 1 ≤ F ∧ 8 + (nL' + 11) + Lc' ≤ Lc) (ho : o < wN Ω) (hc : wC Ω o = oc ci ds) (hcl : CL[ci]? = some (C, T, N)) (hw : (st.map fun v => v.category).sum ≤ 8) (hst : stk = As.reverse ++ .ref (wA Ω o) :: st) (n : Nat) (hn : pc + 3 = n) (k : ∀ a, G p l e s m args below meth c F Lc cc nL own ret Ω cx (bd a) n L (.int a :: st) M) : G p l e s m args below meth c F Lc cc nL own ret Ω cx (clpx f bd) pc L stk M := fun B X r hr H locs ls hP hS hl => by
  subst hn
  rcases clpx_inv hr with ⟨a, hf, hb⟩ | ⟨x, hf, rfl⟩
  · exact call_V B (hC _ hf) d hU hyc hy hR ho hc hcl hw hst hP hS hl (fun H1 locs1 hP1 hS1 => k a B X r hb H1 locs1 ls hP1 hS1 hl)
  · rw [hcx x]
    exact call_VX B X (hC _ hf) d hU hyc hy hR ho hc hcl hw hst hP hS hl
theorem q_xVI {y : MethodName} {cc' : ByteArray} {nL' : Nat} {ret' : Option FieldType} {F' Lc' idx : Nat} (o : Nat) (As : List Value) (st : List Value) {stk : List Value} {C : String} {T : u_T} {N ci : Nat} {ds : List (Option Value)} {γ : Type} {cx : (Nat ⊕ γ) × Mem → Out} {f : Option (Nat ⊕ Int32)} {bd : Int32 → Option ((Nat ⊕ γ) × Mem)} (hC : ∀ r, f = some r → Ct l y (.code y cc' nL' ret') F' Lc' Ω (.ref (wA Ω o) :: As) M ((cpIX M) r)) (hcx : ∀ x M, cx (.inl x, M) = (.inl x, M)) (d : decode cc pc = .ok (.invokevirtual idx, 3)) (hU : uw_V own idx C y (.code y cc' nL' ret')) (hyc : y.cls = C) (hy : yOk y As.length) (hR : F' + 1 ≤ F ∧ 8 + (nL' + 11) + Lc' ≤ Lc) (ho : o < wN Ω) (hc : wC Ω o = oc ci ds) (hcl : CL[ci]? = some (C, T, N)) (hw : (st.map fun v => v.category).sum ≤ 8) (hst : stk = As.reverse ++ .ref (wA Ω o) :: st) (n : Nat) (hn : pc + 3 = n) (k : ∀ a, G p l e s m args below meth c F Lc cc nL own ret Ω cx (bd a) n L (.int a :: st) M) : G p l e s m args below meth c F Lc cc nL own ret Ω cx (clpm M f bd) pc L stk M := fun B X r hr H locs ls hP hS hl => by
  subst hn
  rcases clpm_inv hr with ⟨a, hf, hb⟩ | ⟨x, hf, rfl⟩
  · exact call_V B (hC _ hf) d hU hyc hy hR ho hc hcl hw hst hP hS hl (fun H1 locs1 hP1 hS1 => k a B X r hb H1 locs1 ls hP1 hS1 hl)
  · rw [hcx x M]
    exact call_VX B X (hC _ hf) d hU hyc hy hR ho hc hcl hw hst hP hS hl
theorem p_cVV {y : MethodName} {cc' : ByteArray} {nL' : Nat} {ret' : Option FieldType} {F' Lc' idx : Nat} (o : Nat) (As : List Value) (st : List Value) {stk : List Value} {C : String} {T : u_T} {N ci : Nat} {ds : List (Option Value)} {f : Option Unit} {bd : Unit → Option β} (hC : ∀ r, f = some r → Ct l y (.code y cc' nL' ret') F' Lc' Ω (.ref (wA Ω o) :: As) M ((cpV M) r)) (d : decode cc pc = .ok (.invokevirtual idx, 3)) (hU : uw_V own idx C y (.code y cc' nL' ret')) (hyc : y.cls = C) (hy : yOk y As.length) (hR : F' + 1 ≤ F ∧ 8 + (nL' + 11) + Lc' ≤ Lc) (ho : o < wN Ω) (hc : wC Ω o = oc ci ds) (hcl : CL[ci]? = some (C, T, N)) (hw : (st.map fun v => v.category).sum ≤ 8) (hst : stk = As.reverse ++ .ref (wA Ω o) :: st) (n : Nat) (hn : pc + 3 = n) (k : ∀ a, G p l e s m args below meth c F Lc cc nL own ret Ω cv (bd a) n L st M) : G p l e s m args below meth c F Lc cc nL own ret Ω cv (clp f bd) pc L stk M := fun B X r hr H locs ls hP hS hl => by
  subst hn
  obtain ⟨a, hf, hb⟩ := clp_inv hr
  exact call_V B (hC _ hf) d hU hyc hy hR ho hc hcl hw hst hP hS hl (fun H1 locs1 hP1 hS1 => k a B X r hb H1 locs1 ls hP1 hS1 hl)
theorem p_xVV {y : MethodName} {cc' : ByteArray} {nL' : Nat} {ret' : Option FieldType} {F' Lc' idx : Nat} (o : Nat) (As : List Value) (st : List Value) {stk : List Value} {C : String} {T : u_T} {N ci : Nat} {ds : List (Option Value)} {γ : Type} {cx : Nat ⊕ γ → Out} {f : Option (Nat ⊕ Unit)} {bd : Unit → Option (Nat ⊕ γ)} (hC : ∀ r, f = some r → Ct l y (.code y cc' nL' ret') F' Lc' Ω (.ref (wA Ω o) :: As) M ((cpVX M) r)) (hcx : ∀ x, cx (.inl x) = (.inl x, M)) (d : decode cc pc = .ok (.invokevirtual idx, 3)) (hU : uw_V own idx C y (.code y cc' nL' ret')) (hyc : y.cls = C) (hy : yOk y As.length) (hR : F' + 1 ≤ F ∧ 8 + (nL' + 11) + Lc' ≤ Lc) (ho : o < wN Ω) (hc : wC Ω o = oc ci ds) (hcl : CL[ci]? = some (C, T, N)) (hw : (st.map fun v => v.category).sum ≤ 8) (hst : stk = As.reverse ++ .ref (wA Ω o) :: st) (n : Nat) (hn : pc + 3 = n) (k : ∀ a, G p l e s m args below meth c F Lc cc nL own ret Ω cx (bd a) n L (st) M) : G p l e s m args below meth c F Lc cc nL own ret Ω cx (clpx f bd) pc L stk M := fun B X r hr H locs ls hP hS hl => by
  subst hn
  rcases clpx_inv hr with ⟨a, hf, hb⟩ | ⟨x, hf, rfl⟩
  · exact call_V B (hC _ hf) d hU hyc hy hR ho hc hcl hw hst hP hS hl (fun H1 locs1 hP1 hS1 => k a B X r hb H1 locs1 ls hP1 hS1 hl)
  · rw [hcx x]
    exact call_VX B X (hC _ hf) d hU hyc hy hR ho hc hcl hw hst hP hS hl
theorem q_xVV {y : MethodName} {cc' : ByteArray} {nL' : Nat} {ret' : Option FieldType} {F' Lc' idx : Nat} (o : Nat) (As : List Value) (st : List Value) {stk : List Value} {C : String} {T : u_T} {N ci : Nat} {ds : List (Option Value)} {γ : Type} {cx : (Nat ⊕ γ) × Mem → Out} {f : Option (Nat ⊕ Unit)} {bd : Unit → Option ((Nat ⊕ γ) × Mem)} (hC : ∀ r, f = some r → Ct l y (.code y cc' nL' ret') F' Lc' Ω (.ref (wA Ω o) :: As) M ((cpVX M) r)) (hcx : ∀ x M, cx (.inl x, M) = (.inl x, M)) (d : decode cc pc = .ok (.invokevirtual idx, 3)) (hU : uw_V own idx C y (.code y cc' nL' ret')) (hyc : y.cls = C) (hy : yOk y As.length) (hR : F' + 1 ≤ F ∧ 8 + (nL' + 11) + Lc' ≤ Lc) (ho : o < wN Ω) (hc : wC Ω o = oc ci ds) (hcl : CL[ci]? = some (C, T, N)) (hw : (st.map fun v => v.category).sum ≤ 8) (hst : stk = As.reverse ++ .ref (wA Ω o) :: st) (n : Nat) (hn : pc + 3 = n) (k : ∀ a, G p l e s m args below meth c F Lc cc nL own ret Ω cx (bd a) n L (st) M) : G p l e s m args below meth c F Lc cc nL own ret Ω cx (clpm M f bd) pc L stk M := fun B X r hr H locs ls hP hS hl => by
  subst hn
  rcases clpm_inv hr with ⟨a, hf, hb⟩ | ⟨x, hf, rfl⟩
  · exact call_V B (hC _ hf) d hU hyc hy hR ho hc hcl hw hst hP hS hl (fun H1 locs1 hP1 hS1 => k a B X r hb H1 locs1 ls hP1 hS1 hl)
  · rw [hcx x M]
    exact call_VX B X (hC _ hf) d hU hyc hy hR ho hc hcl hw hst hP hS hl
theorem p_cVR {y : MethodName} {cc' : ByteArray} {nL' : Nat} {ret' : Option FieldType} {F' Lc' idx : Nat} (o : Nat) (As : List Value) (st : List Value) {stk : List Value} {C : String} {T : u_T} {N ci : Nat} {ds : List (Option Value)} {f : Option Nat} {bd : Nat → Option β} (hC : ∀ r, f = some r → Ct l y (.code y cc' nL' ret') F' Lc' Ω (.ref (wA Ω o) :: As) M ((cpR Ω M) r)) (d : decode cc pc = .ok (.invokevirtual idx, 3)) (hU : uw_V own idx C y (.code y cc' nL' ret')) (hyc : y.cls = C) (hy : yOk y As.length) (hR : F' + 1 ≤ F ∧ 8 + (nL' + 11) + Lc' ≤ Lc) (ho : o < wN Ω) (hc : wC Ω o = oc ci ds) (hcl : CL[ci]? = some (C, T, N)) (hw : (st.map fun v => v.category).sum ≤ 8) (hst : stk = As.reverse ++ .ref (wA Ω o) :: st) (n : Nat) (hn : pc + 3 = n) (k : ∀ a, G p l e s m args below meth c F Lc cc nL own ret Ω cv (bd a) n L (.ref (wA Ω a) :: st) M) : G p l e s m args below meth c F Lc cc nL own ret Ω cv (clp f bd) pc L stk M := fun B X r hr H locs ls hP hS hl => by
  subst hn
  obtain ⟨a, hf, hb⟩ := clp_inv hr
  exact call_V B (hC _ hf) d hU hyc hy hR ho hc hcl hw hst hP hS hl (fun H1 locs1 hP1 hS1 => k a B X r hb H1 locs1 ls hP1 hS1 hl)
theorem p_xVR {y : MethodName} {cc' : ByteArray} {nL' : Nat} {ret' : Option FieldType} {F' Lc' idx : Nat} (o : Nat) (As : List Value) (st : List Value) {stk : List Value} {C : String} {T : u_T} {N ci : Nat} {ds : List (Option Value)} {γ : Type} {cx : Nat ⊕ γ → Out} {f : Option (Nat ⊕ Nat)} {bd : Nat → Option (Nat ⊕ γ)} (hC : ∀ r, f = some r → Ct l y (.code y cc' nL' ret') F' Lc' Ω (.ref (wA Ω o) :: As) M ((cpRX Ω M) r)) (hcx : ∀ x, cx (.inl x) = (.inl x, M)) (d : decode cc pc = .ok (.invokevirtual idx, 3)) (hU : uw_V own idx C y (.code y cc' nL' ret')) (hyc : y.cls = C) (hy : yOk y As.length) (hR : F' + 1 ≤ F ∧ 8 + (nL' + 11) + Lc' ≤ Lc) (ho : o < wN Ω) (hc : wC Ω o = oc ci ds) (hcl : CL[ci]? = some (C, T, N)) (hw : (st.map fun v => v.category).sum ≤ 8) (hst : stk = As.reverse ++ .ref (wA Ω o) :: st) (n : Nat) (hn : pc + 3 = n) (k : ∀ a, G p l e s m args below meth c F Lc cc nL own ret Ω cx (bd a) n L (.ref (wA Ω a) :: st) M) : G p l e s m args below meth c F Lc cc nL own ret Ω cx (clpx f bd) pc L stk M := fun B X r hr H locs ls hP hS hl => by
  subst hn
  rcases clpx_inv hr with ⟨a, hf, hb⟩ | ⟨x, hf, rfl⟩
  · exact call_V B (hC _ hf) d hU hyc hy hR ho hc hcl hw hst hP hS hl (fun H1 locs1 hP1 hS1 => k a B X r hb H1 locs1 ls hP1 hS1 hl)
  · rw [hcx x]
    exact call_VX B X (hC _ hf) d hU hyc hy hR ho hc hcl hw hst hP hS hl
theorem q_xVR {y : MethodName} {cc' : ByteArray} {nL' : Nat} {ret' : Option FieldType} {F' Lc' idx : Nat} (o : Nat) (As : List Value) (st : List Value) {stk : List Value} {C : String} {T : u_T} {N ci : Nat} {ds : List (Option Value)} {γ : Type} {cx : (Nat ⊕ γ) × Mem → Out} {f : Option (Nat ⊕ Nat)} {bd : Nat → Option ((Nat ⊕ γ) × Mem)} (hC : ∀ r, f = some r → Ct l y (.code y cc' nL' ret') F' Lc' Ω (.ref (wA Ω o) :: As) M ((cpRX Ω M) r)) (hcx : ∀ x M, cx (.inl x, M) = (.inl x, M)) (d : decode cc pc = .ok (.invokevirtual idx, 3)) (hU : uw_V own idx C y (.code y cc' nL' ret')) (hyc : y.cls = C) (hy : yOk y As.length) (hR : F' + 1 ≤ F ∧ 8 + (nL' + 11) + Lc' ≤ Lc) (ho : o < wN Ω) (hc : wC Ω o = oc ci ds) (hcl : CL[ci]? = some (C, T, N)) (hw : (st.map fun v => v.category).sum ≤ 8) (hst : stk = As.reverse ++ .ref (wA Ω o) :: st) (n : Nat) (hn : pc + 3 = n) (k : ∀ a, G p l e s m args below meth c F Lc cc nL own ret Ω cx (bd a) n L (.ref (wA Ω a) :: st) M) : G p l e s m args below meth c F Lc cc nL own ret Ω cx (clpm M f bd) pc L stk M := fun B X r hr H locs ls hP hS hl => by
  subst hn
  rcases clpm_inv hr with ⟨a, hf, hb⟩ | ⟨x, hf, rfl⟩
  · exact call_V B (hC _ hf) d hU hyc hy hR ho hc hcl hw hst hP hS hl (fun H1 locs1 hP1 hS1 => k a B X r hb H1 locs1 ls hP1 hS1 hl)
  · rw [hcx x M]
    exact call_VX B X (hC _ hf) d hU hyc hy hR ho hc hcl hw hst hP hS hl
theorem p_cSI {y : MethodName} {cc' : ByteArray} {nL' : Nat} {ret' : Option FieldType} {F' Lc' idx : Nat} (As : List Value) (st : List Value) {stk : List Value} {f : Option Int32} {bd : Int32 → Option β} (hC : ∀ r, f = some r → Ct l y (.code y cc' nL' ret') F' Lc' Ω (As) M ((cpI M) r)) (d : decode cc pc = .ok (.invokestatic idx, 3)) (hU : uw_S own idx y (.code y cc' nL' ret')) (hyc : y.cls = own) (hy : yOk y As.length) (hR : F' + 1 ≤ F ∧ 8 + (nL' + 11) + Lc' ≤ Lc) (hw : (st.map fun v => v.category).sum ≤ 8) (hst : stk = As.reverse ++ st) (n : Nat) (hn : pc + 3 = n) (k : ∀ a, G p l e s m args below meth c F Lc cc nL own ret Ω cv (bd a) n L (.int a :: st) M) : G p l e s m args below meth c F Lc cc nL own ret Ω cv (clp f bd) pc L stk M := fun B X r hr H locs ls hP hS hl => by
  subst hn
  obtain ⟨a, hf, hb⟩ := clp_inv hr
  exact call_S B (hC _ hf) d hU hyc hy hR hw hst hP hS hl (fun H1 locs1 hP1 hS1 => k a B X r hb H1 locs1 ls hP1 hS1 hl)
theorem p_xSI {y : MethodName} {cc' : ByteArray} {nL' : Nat} {ret' : Option FieldType} {F' Lc' idx : Nat} (As : List Value) (st : List Value) {stk : List Value} {γ : Type} {cx : Nat ⊕ γ → Out} {f : Option (Nat ⊕ Int32)} {bd : Int32 → Option (Nat ⊕ γ)} (hC : ∀ r, f = some r → Ct l y (.code y cc' nL' ret') F' Lc' Ω (As) M ((cpIX M) r)) (hcx : ∀ x, cx (.inl x) = (.inl x, M)) (d : decode cc pc = .ok (.invokestatic idx, 3)) (hU : uw_S own idx y (.code y cc' nL' ret')) (hyc : y.cls = own) (hy : yOk y As.length) (hR : F' + 1 ≤ F ∧ 8 + (nL' + 11) + Lc' ≤ Lc) (hw : (st.map fun v => v.category).sum ≤ 8) (hst : stk = As.reverse ++ st) (n : Nat) (hn : pc + 3 = n) (k : ∀ a, G p l e s m args below meth c F Lc cc nL own ret Ω cx (bd a) n L (.int a :: st) M) : G p l e s m args below meth c F Lc cc nL own ret Ω cx (clpx f bd) pc L stk M := fun B X r hr H locs ls hP hS hl => by
  subst hn
  rcases clpx_inv hr with ⟨a, hf, hb⟩ | ⟨x, hf, rfl⟩
  · exact call_S B (hC _ hf) d hU hyc hy hR hw hst hP hS hl (fun H1 locs1 hP1 hS1 => k a B X r hb H1 locs1 ls hP1 hS1 hl)
  · rw [hcx x]
    exact call_SX B X (hC _ hf) d hU hyc hy hR hw hst hP hS hl
theorem q_xSI {y : MethodName} {cc' : ByteArray} {nL' : Nat} {ret' : Option FieldType} {F' Lc' idx : Nat} (As : List Value) (st : List Value) {stk : List Value} {γ : Type} {cx : (Nat ⊕ γ) × Mem → Out} {f : Option (Nat ⊕ Int32)} {bd : Int32 → Option ((Nat ⊕ γ) × Mem)} (hC : ∀ r, f = some r → Ct l y (.code y cc' nL' ret') F' Lc' Ω (As) M ((cpIX M) r)) (hcx : ∀ x M, cx (.inl x, M) = (.inl x, M)) (d : decode cc pc = .ok (.invokestatic idx, 3)) (hU : uw_S own idx y (.code y cc' nL' ret')) (hyc : y.cls = own) (hy : yOk y As.length) (hR : F' + 1 ≤ F ∧ 8 + (nL' + 11) + Lc' ≤ Lc) (hw : (st.map fun v => v.category).sum ≤ 8) (hst : stk = As.reverse ++ st) (n : Nat) (hn : pc + 3 = n) (k : ∀ a, G p l e s m args below meth c F Lc cc nL own ret Ω cx (bd a) n L (.int a :: st) M) : G p l e s m args below meth c F Lc cc nL own ret Ω cx (clpm M f bd) pc L stk M := fun B X r hr H locs ls hP hS hl => by
  subst hn
  rcases clpm_inv hr with ⟨a, hf, hb⟩ | ⟨x, hf, rfl⟩
  · exact call_S B (hC _ hf) d hU hyc hy hR hw hst hP hS hl (fun H1 locs1 hP1 hS1 => k a B X r hb H1 locs1 ls hP1 hS1 hl)
  · rw [hcx x M]
    exact call_SX B X (hC _ hf) d hU hyc hy hR hw hst hP hS hl
theorem p_cSV {y : MethodName} {cc' : ByteArray} {nL' : Nat} {ret' : Option FieldType} {F' Lc' idx : Nat} (As : List Value) (st : List Value) {stk : List Value} {f : Option Unit} {bd : Unit → Option β} (hC : ∀ r, f = some r → Ct l y (.code y cc' nL' ret') F' Lc' Ω (As) M ((cpV M) r)) (d : decode cc pc = .ok (.invokestatic idx, 3)) (hU : uw_S own idx y (.code y cc' nL' ret')) (hyc : y.cls = own) (hy : yOk y As.length) (hR : F' + 1 ≤ F ∧ 8 + (nL' + 11) + Lc' ≤ Lc) (hw : (st.map fun v => v.category).sum ≤ 8) (hst : stk = As.reverse ++ st) (n : Nat) (hn : pc + 3 = n) (k : ∀ a, G p l e s m args below meth c F Lc cc nL own ret Ω cv (bd a) n L st M) : G p l e s m args below meth c F Lc cc nL own ret Ω cv (clp f bd) pc L stk M := fun B X r hr H locs ls hP hS hl => by
  subst hn
  obtain ⟨a, hf, hb⟩ := clp_inv hr
  exact call_S B (hC _ hf) d hU hyc hy hR hw hst hP hS hl (fun H1 locs1 hP1 hS1 => k a B X r hb H1 locs1 ls hP1 hS1 hl)
theorem p_xSV {y : MethodName} {cc' : ByteArray} {nL' : Nat} {ret' : Option FieldType} {F' Lc' idx : Nat} (As : List Value) (st : List Value) {stk : List Value} {γ : Type} {cx : Nat ⊕ γ → Out} {f : Option (Nat ⊕ Unit)} {bd : Unit → Option (Nat ⊕ γ)} (hC : ∀ r, f = some r → Ct l y (.code y cc' nL' ret') F' Lc' Ω (As) M ((cpVX M) r)) (hcx : ∀ x, cx (.inl x) = (.inl x, M)) (d : decode cc pc = .ok (.invokestatic idx, 3)) (hU : uw_S own idx y (.code y cc' nL' ret')) (hyc : y.cls = own) (hy : yOk y As.length) (hR : F' + 1 ≤ F ∧ 8 + (nL' + 11) + Lc' ≤ Lc) (hw : (st.map fun v => v.category).sum ≤ 8) (hst : stk = As.reverse ++ st) (n : Nat) (hn : pc + 3 = n) (k : ∀ a, G p l e s m args below meth c F Lc cc nL own ret Ω cx (bd a) n L (st) M) : G p l e s m args below meth c F Lc cc nL own ret Ω cx (clpx f bd) pc L stk M := fun B X r hr H locs ls hP hS hl => by
  subst hn
  rcases clpx_inv hr with ⟨a, hf, hb⟩ | ⟨x, hf, rfl⟩
  · exact call_S B (hC _ hf) d hU hyc hy hR hw hst hP hS hl (fun H1 locs1 hP1 hS1 => k a B X r hb H1 locs1 ls hP1 hS1 hl)
  · rw [hcx x]
    exact call_SX B X (hC _ hf) d hU hyc hy hR hw hst hP hS hl
theorem q_xSV {y : MethodName} {cc' : ByteArray} {nL' : Nat} {ret' : Option FieldType} {F' Lc' idx : Nat} (As : List Value) (st : List Value) {stk : List Value} {γ : Type} {cx : (Nat ⊕ γ) × Mem → Out} {f : Option (Nat ⊕ Unit)} {bd : Unit → Option ((Nat ⊕ γ) × Mem)} (hC : ∀ r, f = some r → Ct l y (.code y cc' nL' ret') F' Lc' Ω (As) M ((cpVX M) r)) (hcx : ∀ x M, cx (.inl x, M) = (.inl x, M)) (d : decode cc pc = .ok (.invokestatic idx, 3)) (hU : uw_S own idx y (.code y cc' nL' ret')) (hyc : y.cls = own) (hy : yOk y As.length) (hR : F' + 1 ≤ F ∧ 8 + (nL' + 11) + Lc' ≤ Lc) (hw : (st.map fun v => v.category).sum ≤ 8) (hst : stk = As.reverse ++ st) (n : Nat) (hn : pc + 3 = n) (k : ∀ a, G p l e s m args below meth c F Lc cc nL own ret Ω cx (bd a) n L (st) M) : G p l e s m args below meth c F Lc cc nL own ret Ω cx (clpm M f bd) pc L stk M := fun B X r hr H locs ls hP hS hl => by
  subst hn
  rcases clpm_inv hr with ⟨a, hf, hb⟩ | ⟨x, hf, rfl⟩
  · exact call_S B (hC _ hf) d hU hyc hy hR hw hst hP hS hl (fun H1 locs1 hP1 hS1 => k a B X r hb H1 locs1 ls hP1 hS1 hl)
  · rw [hcx x M]
    exact call_SX B X (hC _ hf) d hU hyc hy hR hw hst hP hS hl
theorem p_cSR {y : MethodName} {cc' : ByteArray} {nL' : Nat} {ret' : Option FieldType} {F' Lc' idx : Nat} (As : List Value) (st : List Value) {stk : List Value} {f : Option Nat} {bd : Nat → Option β} (hC : ∀ r, f = some r → Ct l y (.code y cc' nL' ret') F' Lc' Ω (As) M ((cpR Ω M) r)) (d : decode cc pc = .ok (.invokestatic idx, 3)) (hU : uw_S own idx y (.code y cc' nL' ret')) (hyc : y.cls = own) (hy : yOk y As.length) (hR : F' + 1 ≤ F ∧ 8 + (nL' + 11) + Lc' ≤ Lc) (hw : (st.map fun v => v.category).sum ≤ 8) (hst : stk = As.reverse ++ st) (n : Nat) (hn : pc + 3 = n) (k : ∀ a, G p l e s m args below meth c F Lc cc nL own ret Ω cv (bd a) n L (.ref (wA Ω a) :: st) M) : G p l e s m args below meth c F Lc cc nL own ret Ω cv (clp f bd) pc L stk M := fun B X r hr H locs ls hP hS hl => by
  subst hn
  obtain ⟨a, hf, hb⟩ := clp_inv hr
  exact call_S B (hC _ hf) d hU hyc hy hR hw hst hP hS hl (fun H1 locs1 hP1 hS1 => k a B X r hb H1 locs1 ls hP1 hS1 hl)
theorem p_xSR {y : MethodName} {cc' : ByteArray} {nL' : Nat} {ret' : Option FieldType} {F' Lc' idx : Nat} (As : List Value) (st : List Value) {stk : List Value} {γ : Type} {cx : Nat ⊕ γ → Out} {f : Option (Nat ⊕ Nat)} {bd : Nat → Option (Nat ⊕ γ)} (hC : ∀ r, f = some r → Ct l y (.code y cc' nL' ret') F' Lc' Ω (As) M ((cpRX Ω M) r)) (hcx : ∀ x, cx (.inl x) = (.inl x, M)) (d : decode cc pc = .ok (.invokestatic idx, 3)) (hU : uw_S own idx y (.code y cc' nL' ret')) (hyc : y.cls = own) (hy : yOk y As.length) (hR : F' + 1 ≤ F ∧ 8 + (nL' + 11) + Lc' ≤ Lc) (hw : (st.map fun v => v.category).sum ≤ 8) (hst : stk = As.reverse ++ st) (n : Nat) (hn : pc + 3 = n) (k : ∀ a, G p l e s m args below meth c F Lc cc nL own ret Ω cx (bd a) n L (.ref (wA Ω a) :: st) M) : G p l e s m args below meth c F Lc cc nL own ret Ω cx (clpx f bd) pc L stk M := fun B X r hr H locs ls hP hS hl => by
  subst hn
  rcases clpx_inv hr with ⟨a, hf, hb⟩ | ⟨x, hf, rfl⟩
  · exact call_S B (hC _ hf) d hU hyc hy hR hw hst hP hS hl (fun H1 locs1 hP1 hS1 => k a B X r hb H1 locs1 ls hP1 hS1 hl)
  · rw [hcx x]
    exact call_SX B X (hC _ hf) d hU hyc hy hR hw hst hP hS hl
theorem q_xSR {y : MethodName} {cc' : ByteArray} {nL' : Nat} {ret' : Option FieldType} {F' Lc' idx : Nat} (As : List Value) (st : List Value) {stk : List Value} {γ : Type} {cx : (Nat ⊕ γ) × Mem → Out} {f : Option (Nat ⊕ Nat)} {bd : Nat → Option ((Nat ⊕ γ) × Mem)} (hC : ∀ r, f = some r → Ct l y (.code y cc' nL' ret') F' Lc' Ω (As) M ((cpRX Ω M) r)) (hcx : ∀ x M, cx (.inl x, M) = (.inl x, M)) (d : decode cc pc = .ok (.invokestatic idx, 3)) (hU : uw_S own idx y (.code y cc' nL' ret')) (hyc : y.cls = own) (hy : yOk y As.length) (hR : F' + 1 ≤ F ∧ 8 + (nL' + 11) + Lc' ≤ Lc) (hw : (st.map fun v => v.category).sum ≤ 8) (hst : stk = As.reverse ++ st) (n : Nat) (hn : pc + 3 = n) (k : ∀ a, G p l e s m args below meth c F Lc cc nL own ret Ω cx (bd a) n L (.ref (wA Ω a) :: st) M) : G p l e s m args below meth c F Lc cc nL own ret Ω cx (clpm M f bd) pc L stk M := fun B X r hr H locs ls hP hS hl => by
  subst hn
  rcases clpm_inv hr with ⟨a, hf, hb⟩ | ⟨x, hf, rfl⟩
  · exact call_S B (hC _ hf) d hU hyc hy hR hw hst hP hS hl (fun H1 locs1 hP1 hS1 => k a B X r hb H1 locs1 ls hP1 hS1 hl)
  · rw [hcx x M]
    exact call_SX B X (hC _ hf) d hU hyc hy hR hw hst hP hS hl
theorem p_cSNI {y : MethodName} {cc' : ByteArray} {nL' : Nat} {ret' : Option FieldType} {F' Lc' idx : Nat} (As : List Value) (st : List Value) {stk : List Value} {f : Option Int32} {bd : Int32 → Option β} (hC : ∀ r, f = some r → Ct l y (.code y cc' nL' ret') F' Lc' Ω (As) M ((cpI M) r)) {host : String} (d : decode cc pc = .ok (.invokestatic idx, 3)) (hN : Cond.methodLinkNest own idx y host ∈ NW) (h2 : Cond.static y ∈ UW) (h3 : Cond.initialized y.cls ∈ UW) (h4 : Cond.code y cc' nL' ret' ∈ UW) (hy : yOk y As.length) (hR : F' + 1 ≤ F ∧ 8 + (nL' + 11) + Lc' ≤ Lc) (hw : (st.map fun v => v.category).sum ≤ 8) (hst : stk = As.reverse ++ st) (n : Nat) (hn : pc + 3 = n) (k : ∀ a, G p l e s m args below meth c F Lc cc nL own ret Ω cv (bd a) n L (.int a :: st) M) : G p l e s m args below meth c F Lc cc nL own ret Ω cv (clp f bd) pc L stk M := fun B X r hr H locs ls hP hS hl => by
  subst hn
  obtain ⟨a, hf, hb⟩ := clp_inv hr
  exact call_SN B (hC _ hf) d hN h2 h3 h4 hy hR hw hst hP hS hl (fun H1 locs1 hP1 hS1 => k a B X r hb H1 locs1 ls hP1 hS1 hl)
theorem p_cSNV {y : MethodName} {cc' : ByteArray} {nL' : Nat} {ret' : Option FieldType} {F' Lc' idx : Nat} (As : List Value) (st : List Value) {stk : List Value} {f : Option Unit} {bd : Unit → Option β} (hC : ∀ r, f = some r → Ct l y (.code y cc' nL' ret') F' Lc' Ω (As) M ((cpV M) r)) {host : String} (d : decode cc pc = .ok (.invokestatic idx, 3)) (hN : Cond.methodLinkNest own idx y host ∈ NW) (h2 : Cond.static y ∈ UW) (h3 : Cond.initialized y.cls ∈ UW) (h4 : Cond.code y cc' nL' ret' ∈ UW) (hy : yOk y As.length) (hR : F' + 1 ≤ F ∧ 8 + (nL' + 11) + Lc' ≤ Lc) (hw : (st.map fun v => v.category).sum ≤ 8) (hst : stk = As.reverse ++ st) (n : Nat) (hn : pc + 3 = n) (k : ∀ a, G p l e s m args below meth c F Lc cc nL own ret Ω cv (bd a) n L st M) : G p l e s m args below meth c F Lc cc nL own ret Ω cv (clp f bd) pc L stk M := fun B X r hr H locs ls hP hS hl => by
  subst hn
  obtain ⟨a, hf, hb⟩ := clp_inv hr
  exact call_SN B (hC _ hf) d hN h2 h3 h4 hy hR hw hst hP hS hl (fun H1 locs1 hP1 hS1 => k a B X r hb H1 locs1 ls hP1 hS1 hl)
theorem p_cSNR {y : MethodName} {cc' : ByteArray} {nL' : Nat} {ret' : Option FieldType} {F' Lc' idx : Nat} (As : List Value) (st : List Value) {stk : List Value} {f : Option Nat} {bd : Nat → Option β} (hC : ∀ r, f = some r → Ct l y (.code y cc' nL' ret') F' Lc' Ω (As) M ((cpR Ω M) r)) {host : String} (d : decode cc pc = .ok (.invokestatic idx, 3)) (hN : Cond.methodLinkNest own idx y host ∈ NW) (h2 : Cond.static y ∈ UW) (h3 : Cond.initialized y.cls ∈ UW) (h4 : Cond.code y cc' nL' ret' ∈ UW) (hy : yOk y As.length) (hR : F' + 1 ≤ F ∧ 8 + (nL' + 11) + Lc' ≤ Lc) (hw : (st.map fun v => v.category).sum ≤ 8) (hst : stk = As.reverse ++ st) (n : Nat) (hn : pc + 3 = n) (k : ∀ a, G p l e s m args below meth c F Lc cc nL own ret Ω cv (bd a) n L (.ref (wA Ω a) :: st) M) : G p l e s m args below meth c F Lc cc nL own ret Ω cv (clp f bd) pc L stk M := fun B X r hr H locs ls hP hS hl => by
  subst hn
  obtain ⟨a, hf, hb⟩ := clp_inv hr
  exact call_SN B (hC _ hf) d hN h2 h3 h4 hy hR hw hst hP hS hl (fun H1 locs1 hP1 hS1 => k a B X r hb H1 locs1 ls hP1 hS1 hl)
theorem p_cVN {y : MethodName} {cc' : ByteArray} {nL' : Nat} {ret' : Option FieldType} {F' Lc' idx : Nat} (o : Nat) (As : List Value) (st : List Value) {stk : List Value} {C : String} {T : u_T} {N ci : Nat} {ds : List (Option Value)} {f : Option (Option Nat)} {kn : Option β} {ks : Nat → Option β} (hC : ∀ r, f = some r → Ct l y (.code y cc' nL' ret') F' Lc' Ω (.ref (wA Ω o) :: As) M (cpN Ω M r)) (d : decode cc pc = .ok (.invokevirtual idx, 3)) (hU : uw_V own idx C y (.code y cc' nL' ret')) (hyc : y.cls = C) (hy : yOk y As.length) (hR : F' + 1 ≤ F ∧ 8 + (nL' + 11) + Lc' ≤ Lc) (ho : o < wN Ω) (hc : wC Ω o = oc ci ds) (hcl : CL[ci]? = some (C, T, N)) (hw : (st.map fun v => v.category).sum ≤ 8) (hst : stk = As.reverse ++ .ref (wA Ω o) :: st) (n : Nat) (hn : pc + 3 = n) (k0 : G p l e s m args below meth c F Lc cc nL own ret Ω cv kn n L (.null :: st) M) (k1 : ∀ a, G p l e s m args below meth c F Lc cc nL own ret Ω cv (ks a) n L (.ref (wA Ω a) :: st) M) : G p l e s m args below meth c F Lc cc nL own ret Ω cv (clpn f kn ks) pc L stk M := fun B X r hr H locs ls hP hS hl => by
  subst hn
  rcases clpn_inv hr with ⟨hf, hb⟩ | ⟨a, hf, hb⟩
  · exact call_V B (hC _ hf) d hU hyc hy hR ho hc hcl hw hst hP hS hl (fun H1 locs1 hP1 hS1 => k0 B X r hb H1 locs1 ls hP1 hS1 hl)
  · exact call_V B (hC _ hf) d hU hyc hy hR ho hc hcl hw hst hP hS hl (fun H1 locs1 hP1 hS1 => k1 a B X r hb H1 locs1 ls hP1 hS1 hl)
theorem hX0 {y : MethodName} {rm : Room} {s₁ : State} (hB : BodyLoose p l y (headSpec (.code y cc nL ret :: UW) rm) cc nL ret e s m args below meth c s₁) : ∀ x ∈ c.exceptionTable.toList, False := by
  obtain ⟨meth9, c9, h1, h2, -, -, -, -, h7, -⟩ := Cond.code_spec hB.named (atoms_spec (ws := .code y cc nL ret :: UW) hB.pre _ List.mem_cons_self)
  cases Option.some.inj (h1.symm.trans hB.method)
  cases Option.some.inj (h2.symm.trans (Stand.of_body hB).code)
  intro x hx
  rw [Array.isEmpty_iff.mp h7] at hx
  cases hx
/-- a contract out of a walk -/
theorem ofG {y : MethodName} {av : List Value} (L0 : List (Nat × Value)) (hO : OkW Ω) (hy : plainName y.cls = true) (hyo : y.cls = own) (hav : (lg_sl av).length ≤ nL) (hL : lv_args 0 av = L0) (h : ∀ p e s m args below meth c, G p l e s m args below meth c F Lc cc nL own ret Ω cv b 0 L0 [] M) : ∀ r, b = some r → Ct l y (.code y cc nL ret) F Lc Ω av M (cv r) := by
  intro r hr
  have key : ∀ (p : Program) (e : Env) (s : State) (m : MethodId) (below : List Frame) (meth : Method) (c : Code) (s₁ : State) (x : Bool) (hB : BodyLoose p l y (headSpec (.code y cc nL ret :: UW) (Rm F Lc x)) cc nL ret e s m av.toArray below meth c s₁) (hml : c.maxLocals = nL) (X0 : ∀ x ∈ c.exceptionTable.toList, False) (hok : Ok Ω M s), W p l e (Rm F Lc (xb (cv r))) s m av.toArray below meth c s.heap [] 0 0 (TQ s av.toArray below Ω (cv r)) (entryFrame m av.toArray nL) := by
    intro p e s m below meth c s₁ x hB hml X0 hok
    have hts := atoms_spec (ws := .code y cc nL ret :: UW) hB.pre
    have hown : s.vm.findClass y.cls = some m.cls := findClass_of_methodNamed hB.named
    have hl := lv_entry av (n := nL) hav
    rw [hL] at hl
    rw [lg_entry_eq]
    exact h p e s m av.toArray below meth c ⟨hB.exec, hB.bytes, hml, hyo ▸ hown, fun w hw => hts w (List.mem_cons_of_mem _ hw), hok.2.1, hok.2.2, hB.notSynchronized, hB.returns, hO⟩ X0 r hr s.heap [] _ hok.1 va_S.rf hl
  rcases hcr : cv r with ⟨o, M'⟩
  rw [hcr] at key
  cases o with
  | inr v =>
    intro sz
    refine Met.ofW (cc := cc) (maxL := nL) (ret := ret) hy rfl ?_
    intro p e s m args below meth c s₁ hB hml hv
    obtain ⟨rfl, hsz, hok⟩ := hv
    subst hsz
    exact key p e s m below meth c s₁ false hB hml (fun x hx => hX0 hB x hx) hok
  | inl k =>
    intro sz
    refine vx_ofW (cc := cc) (maxL := nL) (ret := ret) hy rfl ?_
    intro p e s m args below meth c s₁ hB hml X0 hv
    obtain ⟨rfl, hsz, hok⟩ := hv
    subst hsz
    exact key p e s m below meth c s₁ true hB hml X0 hok
end GC
