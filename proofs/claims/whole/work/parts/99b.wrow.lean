/-! the law's own methods: a call of the class, caught -/
def NcX (Ω : Wd) : Prop := ∀ U : State, wX Ω U → ∀ i j : Nat, i < 6 → j < 6 → i ≠ j → va_Nc (exN i) (exN j) U
abbrev lc (cL : ClassId) (f : Nat → Int64) : va_E := .inl (cL, 1, .inr (.inl f))
abbrev dc (cL : ClassId) (f : Nat → UInt64) : va_E := .inl (cL, 1, .inr (.inr (.inr (.inl f))))
/-- the road's world and the cell of answers -/
def wo (Ω : Wd) (M : Mem) (x : Nat × va_E) : va_W := wd Ω M ++ [x]
def AW (Ω : Wd) (out sz : Nat) : Nat → Prop := fun q => AA Ω sz q ∨ q = out
def PreW (Ω : Wd) (av : List Value) (M : Mem) (x : Nat × va_E) (sz : Nat) : Array Value → State → Prop := va_Pc av (fun U => U.heap.size = sz ∧ va_P (wG Ω) CL (wo Ω M x) U.heap ∧ va_K (wG Ω) CL (wT Ω) U ∧ wX Ω U)
def WrQ (Ω : Wd) (out : Nat) (k : Int32) (M' : Mem) (E : va_E → Prop) (sz : Nat) : Array Value → State → Outcome → State → Prop := fun _ st oc t => oc = .returned (some (.int k)) ∧ (∃ x, E x ∧ va_P (wG Ω) CL (wo Ω M' (out, x)) t.heap) ∧ va_F (AW Ω out sz) st t
def CtW (l : Launch) (y : MethodName) (cw : Cond) (F Lc : Nat) (Ω : Wd) (out : Nat) (av : List Value) (M : Mem) (x : va_E) (k : Int32) (M' : Mem) (E : va_E → Prop) : Prop := ∀ sz, out < sz → Met l y (cw :: UW) (Rm F Lc true) (PreW Ω av M (out, x) sz) (WrQ Ω out k M' E sz) 1 6 (AW Ω out sz)
section GW
variable {p : Program} {l : Launch} {e : Env} {s : State} {m : MethodId} {args : Array Value} {below : List Frame} {meth : Method} {c : Code} {F Lc : Nat} {cc : ByteArray} {nL : Nat} {Ω : Wd} {pc : Nat} {L : List (Nat × Value)} {st : List Value} {M M' : Mem} {out : Nat} {x : va_E} {ls : Array Slot} {Q : State → Prop} {E : va_E → Prop}
theorem wo_len : (wd Ω M).length = wN Ω := by simp [wd]
theorem wo_get (x : Nat × va_E) : (wo Ω M x)[wN Ω]? = some x := by
  unfold wo
  rw [List.getElem?_append_right (by rw [wo_len]; exact Nat.le_refl _), wo_len, Nat.sub_self]
  rfl
theorem wo_set (x y : Nat × va_E) : (wo Ω M x).set (wN Ω) y = wo Ω M y := by
  unfold wo
  rw [List.set_append_right _ _ (by rw [wo_len]; exact Nat.le_refl _), wo_len, Nat.sub_self]
  rfl
theorem wo_P {H : Heap} {x : Nat × va_E} (h : va_P (wG Ω) CL (wo Ω M x) H) : va_P (wG Ω) CL (wd Ω M) H := fun k q hk => h k q (by unfold wo; rw [List.getElem?_append_left (List.getElem?_eq_some_iff.mp hk).1]; exact hk)
theorem wo_x {H : Heap} {x : Nat × va_E} (h : va_P (wG Ω) CL (wo Ω M x) H) : va_at (wG Ω) CL x H := h _ x (wo_get x)
theorem wo_mk {H : Heap} {x : Nat × va_E} (h : va_P (wG Ω) CL (wd Ω M) H) (hx : va_at (wG Ω) CL x H) : va_P (wG Ω) CL (wo Ω M x) H := va_P.app h (fun k q hk => by
  have hz : k < 1 := (List.getElem?_eq_some_iff.mp hk).1
  rw [show k = 0 by omega] at hk
  cases hk
  exact hx)
theorem wo_D (hO : OkW Ω) (ho : ∀ i, i < wN Ω → wA Ω i ≠ out) (M : Mem) (x : va_E) (sz : Nat) : va_D (AW Ω out sz) (wo Ω M (out, x)) := by
  refine va_D.app ((wd_D hO M sz).weaken (fun _ _ _ h => Or.inl h)) ⟨fun i j p q hp hq _ => ?_, fun k q hk => ?_⟩ (fun i j p q hp hq e => ?_)
  · have h1 : i < 1 := (List.getElem?_eq_some_iff.mp hp).1
    have h2 : j < 1 := (List.getElem?_eq_some_iff.mp hq).1
    omega
  · have hz : k < 1 := (List.getElem?_eq_some_iff.mp hk).1
    rw [show k = 0 by omega] at hk
    cases hk
    exact Or.inr rfl
  · obtain ⟨h1, rfl⟩ := wd_in hp
    have hz : j < 1 := (List.getElem?_eq_some_iff.mp hq).1
    rw [show j = 0 by omega] at hq
    cases hq
    exact ho i h1 e
/-- what holds in the body of a method of the law -/
def KW (p : Program) (s : State) (m : MethodId) (args : Array Value) (meth : Method) (c : Code) (cc : ByteArray) (nL : Nat) (Ω : Wd) (out : Nat) (M : Mem) (x : va_E) (hh : List (Nat × Nat × Nat × Nat)) : Prop :=
  p.tables.exec = Jvm.exec ∧ c.code = cc ∧ c.maxLocals = nL ∧ s.vm.findClass RL = some m.cls ∧ (∀ w ∈ UW, w.before args s = true) ∧ va_K (wG Ω) CL (wT Ω) s ∧ wX Ω s ∧ meth.locks = false ∧ meth.sig.returnType = some .int ∧ OkW Ω ∧ (∀ i, i < wN Ω → wA Ω i ≠ out) ∧ out < s.heap.size ∧ va_P (wG Ω) CL (wo Ω M (out, x)) s.heap ∧ c.exceptionTable.toList = tableOf hh
abbrev WQ (below : List Frame) (Ω : Wd) (out : Nat) (k : Int32) (M' : Mem) (E : va_E → Prop) (args : Array Value) (s : State) : State → Prop := MQ below (WrQ Ω out k M' E s.heap.size) args s 1 6 (AW Ω out s.heap.size)
theorem wr_pre {hh : List (Nat × Nat × Nat × Nat)} (B : KW p s m args meth c cc nL Ω out M x hh) {U : State} (hU : U.heap = s.heap) (hW : s.WarmedH U.vm) : Ok Ω M U := by
  refine ⟨by rw [hU]; exact wo_P B.2.2.2.2.2.2.2.2.2.2.2.2.1, va_K.moved hW.alike B.2.2.2.2.2.1, ?_⟩
  exact B.2.2.2.2.2.2.2.2.2.1.2.1 s U B.2.2.2.2.2.2.1 hW (by rw [hU]; exact Nat.le_refl _) (fun q hq hn => by rw [hU])
/-- the answer is kept, 0 is returned -/
theorem wr_ret {hh : List (Nat × Nat × Nat × Nat)} (B : KW p s m args meth c cc nL Ω out M x hh) {H1 : Heap} {locs1 : List Loc} {v : Int32} {cL : ClassId} {f : Nat → Int64} (hx : x = lc cL f) (t5 : Nat) (ht : (wT Ω)[t5]? = some (cL, .long)) (hE : ∀ g : Nat → Int64, g 0 = v.toInt64 → E (lc cL g)) (hP1 : va_P (wG Ω) CL (wd Ω M') H1) (hS1 : va_S (AA Ω s.heap.size) s.heap H1 locs1) (pe : Nat) {off : Int} (hoff : ((pc + 2 : Nat) : Int) + off = (pe : Int)) (d1 : decode cc pc = .ok (.i2l, 1)) (d2 : decode cc (pc + 1) = .ok (.lastore, 1)) (d3 : decode cc (pc + 2) = .ok (.goto off, 3)) (d4 : decode cc pe = .ok (.iconst 0, 1)) (d5 : decode cc (pe + 1) = .ok (.ireturn, 1)) : W p l e (Rm F Lc true) s m args below meth c H1 locs1 0 0 (WQ below Ω out 0 M' E args s) (F0 m pc ls [.int v, .int 0, .ref out]) := by
  obtain ⟨b1, b2, b3, b4, b5, b6, b7, b8, b9, b10, b11, b12, b13, b14⟩ := B
  subst hx
  have ho : ¬ AA Ω s.heap.size out := fun z => by
    rcases z with ⟨i, hi, h⟩ | h
    · exact b11 i hi h
    · omega
  have hx1 : va_at (wG Ω) CL (out, lc cL f) H1 := (wo_x b13).kept (hS1.2.1 out b12 ho)
  have hS2 : va_S (AW Ω out s.heap.size) s.heap H1 locs1 := ⟨hS1.1, fun q h1 h2 => hS1.2.1 q h1 (fun z => h2 (Or.inl z)), fun q hq => Or.inl (hS1.2.2 q hq)⟩
  refine lv_i2l b1 b2 (v := v.toInt64) d1 rfl ?_
  refine va_last b1 b2 b6 (wo_mk hP1 hx1) (wo_D b10 b11 M' _ _) hS2 (wN Ω) t5 (wo_get _) ht (inb_in (by decide)) d2 (fun H2 locs2 hP2 _ hS3 => ?_)
  rw [wo_set] at hP2
  refine lv_goto b1 b2 d3 hoff ?_
  refine lv_iconst (v := 0) b1 b2 d4 (by decide) ?_
  refine W.widen (k := 1) (n := 6) (by omega) (by omega) ?_
  exact W.iret (v := 0) b1 b2 b9 (fun t ht hW => ⟨rfl, ⟨_, hE _ rfl, by rw [ht]; exact hP2⟩, hS3.F ht⟩) hS3.2.2 d5
/-- a catch: its number is returned -/
theorem wr_catch {hh : List (Nat × Nat × Nat × Nat)} (B : KW p s m args meth c cc nL Ω out M x hh) (hN : NcX Ω) {H1 : Heap} {locs1 : List Loc} {q : Addr} {ce : Cell} {k : Nat} (hk : k < 6) (kv : Int32) (hE : E x) (hP1 : va_P (wG Ω) CL (wd Ω M') H1) (hS1 : va_S (AA Ω s.heap.size) s.heap H1 locs1) (hce : H1[q]? = some ce) (hcv : ce.vm = .none) (hcl : s.vm.findClass (exN k) = some ce.cls) (pre : List ExceptionTableEntry) (y : ExceptionTableEntry) (suf : List ExceptionTableEntry) (hsplit : tableOf hh = pre ++ y :: suf)
    (hpass : ∀ z ∈ pre, ∃ i, i < 6 ∧ i ≠ k ∧ z.catchType ≠ 0 ∧ Cond.classLink RL z.catchType (exN i) ∈ UW) (hy : covers y pc = true) (h0 : y.catchType ≠ 0) (hlink : Cond.classLink RL y.catchType (exN k) ∈ UW) (hcast : Cond.castable (exN k) (exN k) ∈ NW) {rest : List Value}
    (kk : W p l e (Rm F Lc true) s m args below meth c H1 locs1 1 6 (WQ below Ω out kv M' E args s) (F0 m y.handlerPc ls [.ref q])) : vx_W p l e (Rm F Lc true) s m args below meth c H1 locs1 1 6 (WQ below Ω out kv M' E args s) (F0 m pc ls rest) q := by
  obtain ⟨b1, b2, b3, b4, b5, b6, b7, b8, b9, b10, b11, b12, b13, b14⟩ := B
  refine vx_catch (E := exN k) (name := exN k) b4 pre y suf (b14.trans hsplit) (fun z hz => ?_) hy h0 (b5 _ hlink) (va_Nw.use rfl (b10.2.2.2 s b7 _ hcast)) hce hcv hcl kk
  obtain ⟨i, hi, hik, hz0, hzl⟩ := hpass z hz
  exact Or.inr ⟨hz0, exN i, b5 _ hzl, hN s b7 k i hk hi (fun z => hik z.symm)⟩
/-- .. and there -/
theorem wr_hret {hh : List (Nat × Nat × Nat × Nat)} (B : KW p s m args meth c cc nL Ω out M x hh) {H1 : Heap} {locs1 : List Loc} {kv : Int32} (hE : E x) (hP1 : va_P (wG Ω) CL (wd Ω M') H1) (hS1 : va_S (AA Ω s.heap.size) s.heap H1 locs1) {z : Int} (hz : Int32.ofInt z = kv) (d1 : decode cc pc = .ok (.iconst z, 1)) (d2 : decode cc (pc + 1) = .ok (.ireturn, 1)) : W p l e (Rm F Lc true) s m args below meth c H1 locs1 1 6 (WQ below Ω out kv M' E args s) (F0 m pc ls []) := by
  obtain ⟨b1, b2, b3, b4, b5, b6, b7, b8, b9, b10, b11, b12, b13, b14⟩ := B
  have ho : ¬ AA Ω s.heap.size out := fun z => by
    rcases z with ⟨i, hi, h⟩ | h
    · exact b11 i hi h
    · omega
  have hx1 : va_at (wG Ω) CL (out, x) H1 := (wo_x b13).kept (hS1.2.1 out b12 ho)
  have hS2 : va_S (AW Ω out s.heap.size) s.heap H1 locs1 := ⟨hS1.1, fun q h1 h2 => hS1.2.1 q h1 (fun z => h2 (Or.inl z)), fun q hq => Or.inl (hS1.2.2 q hq)⟩
  refine lv_iconst (v := kv) b1 b2 d1 hz ?_
  exact W.iret (v := kv) b1 b2 b9 (fun t ht hW => ⟨rfl, ⟨x, hE, by rw [ht]; exact wo_mk hP1 hx1⟩, hS2.F ht⟩) hS2.2.2 d2
end GW
