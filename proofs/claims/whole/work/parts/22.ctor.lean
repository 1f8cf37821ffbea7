/-! constructors: worlds that grow. gx: what else holds, of cells older than z0 alone -/
abbrev tyX (cy : Nat → ClassId) : List (ClassId × FieldType) := [(cy 0, .int), (cy 1, .char), (cy 2, .object "SignalRoad$Junction"), (cy 3, .object "SignalRoad$State"), (cy 4, .object "SignalRoad$Word"), (cy 5, .long), (cy 6, .double)]
def GxOk (gx : State → Prop) (z0 : Nat) : Prop := (∀ u U : State, gx u → u.WarmedH U.vm → u.heap.size ≤ U.heap.size → (∀ q : Nat, q < z0 → U.heap[q]? = u.heap[q]?) → gx U) ∧
  (∀ (U : State) (g : JFrame) (mk : MethodId) (a : Array Value), gx U → gx (U.calling g mk a)) ∧ (∀ U : State, gx U → ∀ w ∈ NW, va_Nw w U) ∧ (∀ U : State, gx U → va_AO "SignalRoad$Junction" U ∧ va_AO "SignalRoad$State" U ∧ va_AO "SignalRoad$Word" U) ∧ (∀ U : State, gx U → z0 ≤ U.heap.size)
def Rk (F Lc C S : Nat) : Room := { frames := F, cells := C, slots := S, locals := Lc }
def PreK (D : va_G) (cy : Nat → ClassId) (gx : State → Prop) (h0 ci : Nat) (fs : List Value) (sz : Nat) : Array Value → State → Prop := va_Pc [.ref h0] (fun U => U.heap.size = sz ∧ va_P D CL [(h0, .inr (ci, fs))] U.heap ∧ va_K D CL (tyX cy) U ∧ gx U)
def AK (h0 sz : Nat) : Nat → Prop := fun q => q = h0 ∨ sz ≤ q
def QK (D : va_G) (B : va_W → Prop) (h0 sz : Nat) : Array Value → State → Outcome → State → Prop := fun _ st oc t => oc = .returned none ∧ (∃ ws : va_W, B ws ∧ va_P D CL ws t.heap ∧ va_D (AK h0 sz) ws) ∧ va_F (AK h0 sz) st t
/-- a constructor's contract: from the bare object to a block of cells -/
def CtK (l : Launch) (y : MethodName) (cw : Cond) (F Lc C S : Nat) (D : va_G) (cy : Nat → ClassId) (gx : State → Prop) (z0 h0 ci : Nat) (fs : List Value) (B : va_W → Prop) : Prop := ∀ sz, z0 ≤ h0 → h0 < sz → Met l y (cw :: UW) (Rk F Lc C S) (PreK D cy gx h0 ci fs sz) (QK D B h0 sz) C S (AK h0 sz)
section GKs
variable {p : Program} {l : Launch} {e : Env} {s : State} {m : MethodId} {args : Array Value} {below : List Frame} {meth : Method} {c : Code} {F Lc CC SS : Nat} {cc : ByteArray} {nL : Nat} {own : String} {D : va_G} {cy : Nat → ClassId} {gx : State → Prop} {z0 h0 : Nat} {B : va_W → Prop} {pc cells slots : Nat} {L : List (Nat × Value)} {st : List Value} {ws : va_W}
def KB (p : Program) (s : State) (m : MethodId) (args : Array Value) (meth : Method) (c : Code) (cc : ByteArray) (nL : Nat) (own : String) (D : va_G) (cy : Nat → ClassId) (gx : State → Prop) (z0 h0 : Nat) : Prop :=
  p.tables.exec = Jvm.exec ∧ c.code = cc ∧ c.maxLocals = nL ∧ s.vm.findClass own = some m.cls ∧ (∀ w ∈ UW, w.before args s = true) ∧ va_K D CL (tyX cy) s ∧ gx s ∧ meth.locks = false ∧ meth.sig.returnType = none ∧ GxOk gx z0 ∧ meth.name = "<init>" ∧ z0 ≤ h0 ∧ h0 < s.heap.size
def GK (p : Program) (l : Launch) (e : Env) (s : State) (m : MethodId) (args : Array Value) (below : List Frame) (meth : Method) (c : Code) (F Lc CC SS : Nat) (cc : ByteArray) (nL : Nat) (own : String) (D : va_G) (cy : Nat → ClassId) (gx : State → Prop) (z0 h0 : Nat) (B : va_W → Prop) (cells slots pc : Nat) (L : List (Nat × Value)) (st : List Value) (ws : va_W) : Prop :=
  KB p s m args meth c cc nL own D cy gx z0 h0 → ∀ (H : Heap) (locs : List Loc) (ls : Array Slot), va_P D CL ws H → va_D (AK h0 s.heap.size) ws → va_S (AK h0 s.heap.size) s.heap H locs → lv_has ls nL L → W p l e (Rk F Lc CC SS) s m args below meth c H locs cells slots (MQ below (QK D B h0 s.heap.size) args s CC SS (AK h0 s.heap.size)) (F0 m pc ls st)

theorem k_aload {j : Fin 4} {i x : Nat} (k0 : Nat) (hk : L[k0]? = some (i, .ref x)) (hi : (j : Nat) = i) (n : Nat) (hn : pc + 1 = n) (d : decode cc pc = .ok (.aload_n j, 1)) (k : GK p l e s m args below meth c F Lc CC SS cc nL own D cy gx z0 h0 B cells slots n L (.ref x :: st) ws) : GK p l e s m args below meth c F Lc CC SS cc nL own D cy gx z0 h0 B cells slots pc L st ws := fun K H locs ls hP hD hS hl => by subst hn; exact lv_aload_n K.1 K.2.1 d hi (lv_at hl k0 hk) (k K H locs ls hP hD hS hl)
theorem k_iload {j : Fin 4} {i : Nat} {x : Int32} (k0 : Nat) (hk : L[k0]? = some (i, .int x)) (hi : (j : Nat) = i) (n : Nat) (hn : pc + 1 = n) (d : decode cc pc = .ok (.iload_n j, 1)) (k : GK p l e s m args below meth c F Lc CC SS cc nL own D cy gx z0 h0 B cells slots n L (.int x :: st) ws) : GK p l e s m args below meth c F Lc CC SS cc nL own D cy gx z0 h0 B cells slots pc L st ws := fun K H locs ls hP hD hS hl => by subst hn; exact lv_iload_n K.1 K.2.1 d hi (lv_at hl k0 hk) (k K H locs ls hP hD hS hl)
theorem k_iconst {z : Int} (v : Int32) (n : Nat) (hn : pc + 1 = n) (d : decode cc pc = .ok (.iconst z, 1)) (hv : Int32.ofInt z = v) (k : GK p l e s m args below meth c F Lc CC SS cc nL own D cy gx z0 h0 B cells slots n L (.int v :: st) ws) : GK p l e s m args below meth c F Lc CC SS cc nL own D cy gx z0 h0 B cells slots pc L st ws := fun K H locs ls hP hD hS hl => by subst hn; exact lv_iconst K.1 K.2.1 d hv (k K H locs ls hP hD hS hl)
theorem k_bipush {z : Int} (v : Int32) (n : Nat) (hn : pc + 2 = n) (d : decode cc pc = .ok (.bipush z, 2)) (hv : (Int8.ofInt z).toInt32 = v) (k : GK p l e s m args below meth c F Lc CC SS cc nL own D cy gx z0 h0 B cells slots n L (.int v :: st) ws) : GK p l e s m args below meth c F Lc CC SS cc nL own D cy gx z0 h0 B cells slots pc L st ws := fun K H locs ls hP hD hS hl => by subst hn; exact lv_bipush K.1 K.2.1 d hv (k K H locs ls hP hD hS hl)
theorem k_sipush {z : Int} (v : Int32) (n : Nat) (hn : pc + 3 = n) (d : decode cc pc = .ok (.sipush z, 3)) (hv : (Int16.ofInt z).toInt32 = v) (k : GK p l e s m args below meth c F Lc CC SS cc nL own D cy gx z0 h0 B cells slots n L (.int v :: st) ws) : GK p l e s m args below meth c F Lc CC SS cc nL own D cy gx z0 h0 B cells slots pc L st ws := fun K H locs ls hP hD hS hl => by subst hn; exact lv_sipush K.1 K.2.1 d hv (k K H locs ls hP hD hS hl)
theorem k_dup {v : Value} (n : Nat) (hn : pc + 1 = n) (d : decode cc pc = .ok (.dup, 1)) (hv : v.category = 1) (k : GK p l e s m args below meth c F Lc CC SS cc nL own D cy gx z0 h0 B cells slots n L (v :: v :: st) ws) : GK p l e s m args below meth c F Lc CC SS cc nL own D cy gx z0 h0 B cells slots pc L (v :: st) ws := fun K H locs ls hP hD hS hl => by subst hn; exact lv_dup K.1 K.2.1 d hv (k K H locs ls hP hD hS hl)
theorem k_istore {j : Fin 4} {i : Nat} {x : Int32} (L' : List (Nat × Value)) (hi : (j : Nat) = i) (n : Nat) (hn : pc + 1 = n) (d : decode cc pc = .ok (.istore_n j, 1)) (hj : i < nL) (hL : (i, Value.int x) :: L.filter (fun q => !(q.1 == i) && !(q.1 + 1 == i && q.2.category == 2)) = L') (k : GK p l e s m args below meth c F Lc CC SS cc nL own D cy gx z0 h0 B cells slots n L' st ws) : GK p l e s m args below meth c F Lc CC SS cc nL own D cy gx z0 h0 B cells slots pc L (.int x :: st) ws := fun K H locs ls hP hD hS hl => by subst hn; exact lv_istore_n K.1 K.2.1 d hi hl hj hL (fun ls' hl' => k K H locs ls' hP hD hS hl')
theorem k_iinc {i : Nat} {z : Int} {x v : Int32} (k0 : Nat) (hk : L[k0]? = some (i, .int x)) (hv : x + Int32.ofInt z = v) (L' : List (Nat × Value)) (n : Nat) (hn : pc + 3 = n) (d : decode cc pc = .ok (.iinc i z, 3)) (hj : i < nL) (hL : (i, Value.int v) :: L.filter (fun q => !(q.1 == i) && !(q.1 + 1 == i && q.2.category == 2)) = L') (k : GK p l e s m args below meth c F Lc CC SS cc nL own D cy gx z0 h0 B cells slots n L' st ws) : GK p l e s m args below meth c F Lc CC SS cc nL own D cy gx z0 h0 B cells slots pc L st ws := fun K H locs ls hP hD hS hl => by subst hn; exact lv_iinc K.1 K.2.1 d hl hk hv hj hL (fun ls' hl' => k K H locs ls' hP hD hS hl')
theorem k_goto {off : Int} (tgt : Nat) (ht : (pc : Int) + off = (tgt : Int)) (d : decode cc pc = .ok (.goto off, 3)) (k : GK p l e s m args below meth c F Lc CC SS cc nL own D cy gx z0 h0 B cells slots tgt L st ws) : GK p l e s m args below meth c F Lc CC SS cc nL own D cy gx z0 h0 B cells slots pc L st ws := fun K H locs ls hP hD hS hl => lv_goto K.1 K.2.1 d ht (k K H locs ls hP hD hS hl)
theorem k_geT {x y : Int32} {off : Int} (tgt : Nat) (ht : (pc : Int) + off = (tgt : Int)) (hc : y ≤ x) (d : decode cc pc = .ok (.if_icmp .ge off, 3)) (k : GK p l e s m args below meth c F Lc CC SS cc nL own D cy gx z0 h0 B cells slots tgt L st ws) : GK p l e s m args below meth c F Lc CC SS cc nL own D cy gx z0 h0 B cells slots pc L (.int y :: .int x :: st) ws := fun K H locs ls hP hD hS hl => lv_icmp_ge K.1 K.2.1 d ht (fun _ => k K H locs ls hP hD hS hl) (fun h => absurd hc h)
theorem k_geF {x y : Int32} {off : Int} (tgt : Nat) (ht : (pc : Int) + off = (tgt : Int)) (hc : ¬ y ≤ x) (n : Nat) (hn : pc + 3 = n) (d : decode cc pc = .ok (.if_icmp .ge off, 3)) (k : GK p l e s m args below meth c F Lc CC SS cc nL own D cy gx z0 h0 B cells slots n L st ws) : GK p l e s m args below meth c F Lc CC SS cc nL own D cy gx z0 h0 B cells slots pc L (.int y :: .int x :: st) ws := fun K H locs ls hP hD hS hl => by subst hn; exact lv_icmp_ge K.1 K.2.1 d ht (fun h => absurd h hc) (fun _ => k K H locs ls hP hD hS hl)
theorem k_obj {idx a : Nat} (h1 : Cond.methodLink own idx Lib.objectInit ∈ UW) (h2 : Cond.instanceMethod Lib.objectInit ∈ UW) (h3 : Cond.code Lib.objectInit ⟨#[0xb1]⟩ 1 none ∈ UW) (n : Nat) (hn : pc + 3 = n) (d : decode cc pc = .ok (.invokespecial idx, 3)) (hF : 1 ≤ F) (hLc : (st.map fun v => v.category).sum + 12 ≤ Lc) (k : GK p l e s m args below meth c F Lc CC SS cc nL own D cy gx z0 h0 B cells slots n L st ws) : GK p l e s m args below meth c F Lc CC SS cc nL own D cy gx z0 h0 B cells slots pc L (.ref a :: st) ws := fun K H locs ls hP hD hS hl => by subst hn; exact W.objInit K.1 K.2.1 K.2.2.2.1 (K.2.2.2.2.1 _ h1) (K.2.2.2.2.1 _ h2) (K.2.2.2.2.1 _ h3) rfl (by rw [K.2.2.1]; exact hl.1) rfl d hF (by show 2 * 0 + _ + _ ≤ _; rw [Nat.mul_zero, Nat.zero_add]; exact hLc) (k K H locs ls hP hD hS hl)
theorem k_get (q0 : Nat) {a ci : Nat} {fs : List Value} (he : ws[q0]? = some (a, .inr (ci, fs))) {C : String} {T : u_T} {N : Nat} (hcl : CL[ci]? = some (C, T, N)) (hin : ∀ w ∈ u_ws C T N, w ∈ UW) (k0 : Nat) (hk : k0 < N) {idx : Nat} (hlk : Cond.fieldLink own idx (T k0).1 (T k0).2.1 (T k0).2.2.1 ∈ UW) {v : Value} (hv : fs[k0]? = some v) (n : Nat) (hn : pc + 3 = n) (d : decode cc pc = .ok (.getfield idx, 3)) (k : GK p l e s m args below meth c F Lc CC SS cc nL own D cy gx z0 h0 B cells slots n L (v :: st) ws) : GK p l e s m args below meth c F Lc CC SS cc nL own D cy gx z0 h0 B cells slots pc L (.ref a :: st) ws := fun K H locs ls hP hD hS hl => by subst hn; exact va_get K.1 K.2.1 K.2.2.2.2.1 hin K.2.2.2.1 K.2.2.2.2.2.1 hP q0 he hcl k0 hk (K.2.2.2.2.1 _ hlk) (fun _ h => h) hv d (k K H locs ls hP hD hS hl)
theorem k_put (q0 : Nat) {a ci : Nat} {fs : List Value} (he : ws[q0]? = some (a, .inr (ci, fs))) {C : String} {T : u_T} {N : Nat} (hcl : CL[ci]? = some (C, T, N)) (hin : ∀ w ∈ u_ws C T N, w ∈ UW) (k0 : Nat) (hk : k0 < N) {idx : Nat} (hlk : Cond.fieldLink own idx (T k0).1 (T k0).2.1 (T k0).2.2.1 ∈ UW) (hfin : (T k0).2.2.2 = false) (ty0 : Nat → FieldType) (hty : ∀ k, k < N → parseFieldDescriptor (T k).2.2.1 = some (ty0 k)) (hnm : ∀ a, a < N → ∀ b, b < N → a ≠ b → (T a).2.1 ≠ (T b).2.1) {v : Value} (hnr : narrow (ty0 k0) v = v) (hft : fits (ty0 k0) v = true) (hlen : k0 < fs.length) (ws' : va_W) (hws : ws.set q0 (a, .inr (ci, fs.set k0 v)) = ws') (n : Nat) (hn : pc + 3 = n) (d : decode cc pc = .ok (.putfield idx, 3)) (k : GK p l e s m args below meth c F Lc CC SS cc nL own D cy gx z0 h0 B cells slots n L st ws') : GK p l e s m args below meth c F Lc CC SS cc nL own D cy gx z0 h0 B cells slots pc L (v :: .ref a :: st) ws := fun K H locs ls hP hD hS hl => by subst hn; subst hws; exact va_put K.1 K.2.1 K.2.2.2.2.1 hin ty0 hty hnm K.2.2.2.1 K.2.2.2.2.2.1 hP hD hS q0 he hcl k0 hk (K.2.2.2.2.1 _ hlk) (fun _ h => h) hfin (hty k0 hk) hnr hft hlen d (fun H1 locs1 hP1 hD1 hS1 => k K H1 locs1 ls hP1 hD1 hS1 hl)
theorem k_putF (q0 : Nat) {a ci : Nat} {fs : List Value} (he : ws[q0]? = some (a, .inr (ci, fs))) {C : String} {T : u_T} {N : Nat} (hcl : CL[ci]? = some (C, T, N)) (hin : ∀ w ∈ u_ws C T N, w ∈ UW) (k0 : Nat) (hk : k0 < N) {idx : Nat} (hlk : Cond.fieldLink own idx (T k0).1 (T k0).2.1 (T k0).2.2.1 ∈ UW) (hfin : (T k0).2.2.2 = true) (hdecl : (T k0).1 = own) (ty0 : Nat → FieldType) (hty : ∀ k, k < N → parseFieldDescriptor (T k).2.2.1 = some (ty0 k)) (hnm : ∀ a, a < N → ∀ b, b < N → a ≠ b → (T a).2.1 ≠ (T b).2.1) {v : Value} (hnr : narrow (ty0 k0) v = v) (hft : fits (ty0 k0) v = true) (hlen : k0 < fs.length) (ws' : va_W) (hws : ws.set q0 (a, .inr (ci, fs.set k0 v)) = ws') (n : Nat) (hn : pc + 3 = n) (d : decode cc pc = .ok (.putfield idx, 3)) (k : GK p l e s m args below meth c F Lc CC SS cc nL own D cy gx z0 h0 B cells slots n L st ws') : GK p l e s m args below meth c F Lc CC SS cc nL own D cy gx z0 h0 B cells slots pc L (v :: .ref a :: st) ws := fun K H locs ls hP hD hS hl => by subst hn; subst hws; exact va_putF K.1 K.2.1 K.2.2.2.2.1 hin ty0 hty hnm K.2.2.2.1 K.2.2.2.2.2.1 hP hD hS q0 he hcl k0 hk (K.2.2.2.2.1 _ hlk) (fun _ h => h) hfin K.2.2.2.2.2.2.2.2.2.2.1 hdecl (hty k0 hk) hnr hft hlen d (fun H1 locs1 hP1 hD1 hS1 => k K H1 locs1 ls hP1 hD1 hS1 hl)
theorem kA (K : KB p s m args meth c cc nL own D cy gx z0 h0) : ∀ q : Nat, s.heap.size ≤ q → AK h0 s.heap.size q := fun _ h => Or.inr h
/-- a new array of numbers -/
theorem k_newi {n : Int32} {N' : Nat} (h : Cond.arrayClass .int ∈ UW) (hn0 : ¬ n < 0) (hN : n.toNatClampNeg = N') (hby : N' * 4 ≤ 536870912) (hcl : cells + 1 ≤ CC) (hsl : slots + N' ≤ SS) (nx : Nat) (hnx : pc + 2 = nx) (d : decode cc pc = .ok (.newarray .int, 2)) (k : ∀ q, GK p l e s m args below meth c F Lc CC SS cc nL own D cy gx z0 h0 B (cells + 1) (slots + N') nx L (.ref q :: st) (ws ++ [(q, ac (cy 0) N' (fun _ => 0))])) : GK p l e s m args below meth c F Lc CC SS cc nL own D cy gx z0 h0 B cells slots pc L (.int n :: st) ws := fun K H locs ls hP hD hS hl => by
  subst hnx
  refine va_newa (atype := .int) (ty := .int) (a0 := (N', .inl (fun _ => 0))) K.1 K.2.1 (K.2.2.2.2.1 _ h) rfl K.2.2.2.2.2.1 hP hD hS (kA K) (fun cA => rfl) hn0 hN hby hcl hsl d (fun q cA H1 hK1 hP1 hD1 hS1 => ?_)
  have e : cA = cy 0 := by
    have h1 : s.vm.findClass ("[" ++ FieldType.int.toString) = some cA := (hK1.2 7 (cA, .int) rfl).2
    have h2 : s.vm.findClass ("[" ++ FieldType.int.toString) = some (cy 0) := (hK1.2 0 (cy 0, .int) rfl).2
    exact Option.some.inj (h1.symm.trans h2)
  subst e
  exact k q K H1 locs ls hP1 hD1 hS1 hl
theorem k_newc {n : Int32} {N' : Nat} (h : Cond.arrayClass .char ∈ UW) (hn0 : ¬ n < 0) (hN : n.toNatClampNeg = N') (hby : N' * 2 ≤ 536870912) (hcl : cells + 1 ≤ CC) (hsl : slots + N' ≤ SS) (nx : Nat) (hnx : pc + 2 = nx) (d : decode cc pc = .ok (.newarray .char, 2)) (k : ∀ q, GK p l e s m args below meth c F Lc CC SS cc nL own D cy gx z0 h0 B (cells + 1) (slots + N') nx L (.ref q :: st) (ws ++ [(q, ac (cy 1) N' (fun _ => 0))])) : GK p l e s m args below meth c F Lc CC SS cc nL own D cy gx z0 h0 B cells slots pc L (.int n :: st) ws := fun K H locs ls hP hD hS hl => by
  subst hnx
  refine va_newa (atype := .char) (ty := .char) (a0 := (N', .inl (fun _ => 0))) K.1 K.2.1 (K.2.2.2.2.1 _ h) rfl K.2.2.2.2.2.1 hP hD hS (kA K) (fun cA => rfl) hn0 hN hby hcl hsl d (fun q cA H1 hK1 hP1 hD1 hS1 => ?_)
  have e : cA = cy 1 := by
    have h1 : s.vm.findClass ("[" ++ FieldType.char.toString) = some cA := (hK1.2 7 (cA, .char) rfl).2
    have h2 : s.vm.findClass ("[" ++ FieldType.char.toString) = some (cy 1) := (hK1.2 1 (cy 1, .char) rfl).2
    exact Option.some.inj (h1.symm.trans h2)
  subst e
  exact k q K H1 locs ls hP1 hD1 hS1 hl
/-- a new array of references -/
theorem k_newq {C : String} {idx : Nat} {n : Int32} {N' : Nat} (ti : Nat) (hti : (tyX cy)[ti]? = some (cy ti, .object C)) (hO : ∀ U : State, gx U → va_AO C U) (h : Cond.classLink own idx C ∈ UW) (hn0 : ¬ n < 0) (hN : n.toNatClampNeg = N') (hby : N' * 4 ≤ 536870912) (hcl : cells + 1 ≤ CC) (hsl : slots + N' ≤ SS) (nx : Nat) (hnx : pc + 3 = nx) (d : decode cc pc = .ok (.anewarray idx, 3)) (k : ∀ q, GK p l e s m args below meth c F Lc CC SS cc nL own D cy gx z0 h0 B (cells + 1) (slots + N') nx L (.ref q :: st) (ws ++ [(q, .inl (cy ti, N', .inr (.inr (.inr (.inr (fun _ => none))))))])) : GK p l e s m args below meth c F Lc CC SS cc nL own D cy gx z0 h0 B cells slots pc L (.int n :: st) ws := fun K H locs ls hP hD hS hl => by
  subst hnx
  refine va_newq K.1 K.2.1 K.2.2.2.1 (K.2.2.2.2.1 _ h) (hO s K.2.2.2.2.2.2.1) K.2.2.2.2.2.1 hP hD hS (kA K) hn0 hN hby hcl hsl d (fun q cA H1 hK1 hP1 hD1 hS1 => ?_)
  have e : cA = cy ti := by
    obtain ⟨kA1, comp1, -, -, -, h1⟩ := (hK1.2 7 (cA, .object C) rfl).2
    obtain ⟨kA2, comp2, -, -, -, h2⟩ := (K.2.2.2.2.2.1.2 ti (cy ti, .object C) hti).2
    exact Option.some.inj (h1.symm.trans h2)
  subst e
  exact k q K H1 locs ls hP1 hD1 hS1 hl
/-- the end -/
theorem k_ret (hB : B ws) (hc : cells ≤ CC) (hs : slots ≤ SS) (d : decode cc pc = .ok (.return_, 1)) : GK p l e s m args below meth c F Lc CC SS cc nL own D cy gx z0 h0 B cells slots pc L [] ws := fun K H locs ls hP hD hS hl => by
  have hlk := K.2.2.2.2.2.2.2.1
  refine W.widen hc hs ?_
  exact W.vret K.1 K.2.1 K.2.2.2.2.2.2.2.2.1 (fun t ht hW => ⟨rfl, ⟨ws, hB, by rw [ht]; exact hP, hD⟩, hS.F ht⟩) hS.2.2 d
theorem ofK {y : MethodName} {ci : Nat} {fs : List Value} (hG : GxOk gx z0) (hy : plainName y.cls = true) (hyo : y.cls = own) (hyn : y.name = "<init>") (hL : 1 ≤ nL) (h : ∀ p e s m args below meth c, GK p l e s m args below meth c F Lc CC SS cc nL own D cy gx z0 h0 B 0 0 0 [(0, .ref h0)] [] [(h0, .inr (ci, fs))]) : CtK l y (.code y cc nL none) F Lc CC SS D cy gx z0 h0 ci fs B := by
  intro sz hz hsz
  refine Met.ofW (cc := cc) (maxL := nL) (ret := none) hy rfl ?_
  intro p e s m args below meth c s₁ hB hml hv
  obtain ⟨rfl, hs0, hP, hK, hgx⟩ := hv
  subst hs0
  have hts := atoms_spec (ws := .code y cc nL none :: UW) hB.pre
  have hown : s.vm.findClass y.cls = some m.cls := findClass_of_methodNamed hB.named
  have hin : meth.name = "<init>" := ((name_of_methodNamed hB.named hB.method).1).trans hyn
  have hl := lv_entry [.ref h0] (n := nL) hL
  rw [lg_entry_eq]
  refine h p e s m _ below meth c ⟨hB.exec, hB.bytes, hml, hyo ▸ hown, fun w hw => hts w (List.mem_cons_of_mem _ hw), hK, hgx, hB.notSynchronized, hB.returns, hG, hin, hz, hsz⟩ s.heap [] _ hP ?_ va_S.rf hl
  refine ⟨fun i j p q hp hq _ => ?_, fun k q hk => ?_⟩
  · have h1 : i < 1 := (List.getElem?_eq_some_iff.mp hp).1
    have h2 : j < 1 := (List.getElem?_eq_some_iff.mp hq).1
    omega
  · have h1 : k < 1 := (List.getElem?_eq_some_iff.mp hk).1
    have h2 : k = 0 := by omega
    subst h2
    cases hk
    exact Or.inl rfl
/-- Arrays.fill on an array of the world -/
theorem k_fill (q0 : Nat) {a N : Nat} {f : Nat → Int32} {v : Int32} (he : ws[q0]? = some (a, ac (cy 0) N f)) (hN : N < 100000) (haz : z0 ≤ a) {idx : Nat} (hU : uw_T own idx yJ7_fill_53178 (.code yJ7_fill_53178 cJ7_fill_53178 4 none)) (hF : 1 ≤ F) (hLc : 23 ≤ Lc) (hcl : cells ≤ CC) (hsl : slots ≤ SS) (hw : (st.map fun v => v.category).sum ≤ 8) (ws' : va_W) (hws : ws.set q0 (a, ac (cy 0) N (fun _ => v)) = ws') (nx : Nat) (hnx : pc + 3 = nx) (d : decode cc pc = .ok (.invokestatic idx, 3)) (k : GK p l e s m args below meth c F Lc CC SS cc nL own D cy gx z0 h0 B cells slots nx L st ws') : GK p l e s m args below meth c F Lc CC SS cc nL own D cy gx z0 h0 B cells slots pc L (.int v :: .ref a :: st) ws := fun K H locs ls hP hD hS hl => by
  subst hnx; subst hws
  have hG := K.2.2.2.2.2.2.2.2.2.1
  obtain ⟨Ω, hΩ⟩ : ∃ z : Wd, z = (D, tyX cy, fun _ => ac (cy 0) N, fun _ => a, 1, gx) := ⟨_, rfl⟩
  have hO : OkW Ω := by
    rw [hΩ]
    refine ⟨fun i j hi hj _ => ?_, fun u U hu hW hz hk => hG.1 u U hu hW hz (fun q hq => ?_), hG.2.1, hG.2.2.1⟩
    · have h1 : i < 1 := hi
      have h2 : j < 1 := hj
      omega
    · have h3 := hG.2.2.2.2 u hu
      exact hk q (by omega) (fun i _ => by show a ≠ q; omega)
  have hIA : IA Ω 0 N := by
    rw [hΩ]
    exact ⟨Nat.zero_lt_one, cy 0, 0, rfl, rfl⟩
  obtain ⟨M', e1, e2, e3⟩ := fill_eq (fun _ => f) 0 N v hN
  have hM : ∀ sz, Met l yJ7_fill_53178 (.code yJ7_fill_53178 cJ7_fill_53178 4 none :: UW) (Rm 0 0 false) (PreC Ω [.ref (wA Ω 0), .int v] (fun _ => f) sz) (Qv Ω none M' sz) 0 0 (AA Ω sz) := c_J7_fill_53178 l hO hIA (fun _ => f) v _ e1
  have hz0 := K.2.2.2.2.2.2.2.2.2.2.2.1
  have hh0 := K.2.2.2.2.2.2.2.2.2.2.2.2
  have hkeep : ∀ q : Nat, q < z0 → H[q]? = s.heap[q]? := fun q hq => hS.2.1 q (by omega) (fun z => by rcases z with z | z <;> omega)
  have hpre : ∀ U : State, U.heap = H → s.WarmedH U.vm → PreC Ω [.ref (wA Ω 0), .int v] (fun _ => f) H.size ([.ref (wA Ω 0), .int v] : List Value).toArray U := by
    intro U hU hW
    refine ⟨rfl, by rw [hU], ?_, ?_, ?_⟩
    · rw [hU, hΩ]
      intro i q hq
      have hi : i < 1 := (List.getElem?_eq_some_iff.mp hq).1
      have hi0 : i = 0 := by omega
      subst hi0
      cases hq
      exact hP q0 _ he
    · rw [hΩ]; exact va_K.moved hW.alike K.2.2.2.2.2.1
    · rw [hΩ]; exact hG.1 s U K.2.2.2.2.2.2.1 hW (by rw [hU]; exact hS.1) (fun q hq => by rw [hU]; exact hkeep q hq)
  have hwa : wA Ω 0 = a := by rw [hΩ]
  have hr := va_runS (As := [.ref (wA Ω 0), .int v]) (rest := st) (locs := locs) (cells := cells) (slots := slots) (below := below) (meth := meth) (e := e) (R := Rk F Lc CC SS) (g := F0 m pc ls (.int v :: .ref a :: st)) ⟨K.1, K.2.1, K.2.2.1, K.2.2.2.1, K.2.2.2.2.1⟩ (hM H.size) ⟨callB_of 2 K.2.2.2.2.1 (uw_c hU.2.2.2) rfl rfl rfl (K.2.2.2.2.1 _ hU.2.2.1) (K.2.2.2.2.1 _ hU.1) ⟨by decide +kernel, by decide +kernel, by decide +kernel⟩ ⟨hF, hLc⟩, K.2.2.2.2.1 _ hU.2.1⟩ ⟨pre_blind hO, hpre⟩ rfl rfl hl.1 (by rw [hwa]; rfl) (lv_room hw) d ⟨hcl, hsl⟩
  intro T hT X
  obtain ⟨v', st₀, t, T', L1, q0', X', hL, w1, w2, ⟨hv, hP1, hz, hkk⟩, stp⟩ := hr T hT X
  cases hv
  rw [q0'] at hz hkk
  have hla : a < H.size := (hP q0 _ he).lt
  have hAA : ∀ q : Nat, AA Ω H.size q → AK h0 s.heap.size q := by
    intro q hq
    rcases hq with ⟨i, hi, hq⟩ | hq
    · have h1 : (wA Ω i) = a := by rw [hΩ]
      rw [h1] at hq
      subst hq
      exact hD.2 q0 _ he
    · exact Or.inr (Nat.le_trans hS.1 hq)
  have hne : ∀ q : Nat, q < H.size → q ≠ a → t.heap[q]? = H[q]? := fun q h1 h2 => hkk q h1 (fun z => by
    rcases z with ⟨i, hi, hq⟩ | hq
    · have h3 : (wA Ω i) = a := by rw [hΩ]
      exact h2 (hq.symm.trans h3)
    · omega)
  have hcell : t.heap[a]? = some (vp_cell (cy 0) (N, .inl (fun _ => v))) := by
    have h1 := hP1 0 (a, ac (cy 0) N (M' 0)) (by rw [hΩ]; rfl)
    have h2 : t.heap[a]? = some (vp_cell (cy 0) (N, .inl (M' 0))) := h1
    rw [h2, vp_cell_agree (fun i hi => by rw [e3 i, if_pos hi])]
  have hPn : va_P D CL (ws.set q0 (a, ac (cy 0) N (fun _ => v))) t.heap := by
    intro i q hq
    by_cases hi : i = q0
    · subst hi
      rw [List.getElem?_set_self (by exact (List.getElem?_eq_some_iff.mp he).1)] at hq
      cases hq
      exact hcell
    · rw [List.getElem?_set_ne (fun z => hi z.symm)] at hq
      have h1 := hP i q hq
      exact h1.kept (hne q.1 h1.lt (fun z => hi (hD.1 i q0 q _ hq he z)))
  obtain ⟨t2, a1, b1⟩ := k K T'.heap (locs ++ L1) ls (by rw [w1]; exact hPn) (hD.set he) ⟨Nat.le_trans hS.1 (by rw [w1]; exact hz), fun q h1 h2 => by rw [w1, hkk q (Nat.lt_of_lt_of_le h1 hS.1) (fun z => h2 (hAA q z))]; exact hS.2.1 q h1 h2, fun q hq => by
      rcases List.mem_append.mp hq with h | h
      · exact hS.2.2 q h
      · exact hAA _ (hL q h)⟩ hl T' rfl X'
  exact ⟨t2, stp t2 a1, b1⟩
end GKs

