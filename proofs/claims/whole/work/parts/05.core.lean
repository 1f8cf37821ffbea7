/-! The words that every method has; the world of a system as numbers; the judgement G over both; its rows. -/
def UW : List Cond := lw_tbl.filter goodWord
theorem uw_mem {w : Cond} (h : w ∈ lw_tbl) (hg : goodWord w = true) : w ∈ UW := List.mem_filter.mpr ⟨h, hg⟩
theorem uw_self {ws : List Cond} (h : ∀ w ∈ ws, w ∈ UW) : GoodIn UW ws := fun w hw => ⟨h w hw, good_of_word (List.mem_filter.mp (h w hw)).2⟩
theorem uw_c {c1 : Cond} (h : c1 ∈ UW) : GoodIn UW (c1 :: UW) := uw_self (fun w hw => (List.mem_cons.mp hw).elim (fun e => e ▸ h) id)
def uw_V (own : String) (idx : Nat) (C : String) (y : MethodName) (c1 : Cond) : Prop := Cond.methodLink own idx y ∈ UW ∧ Cond.instanceMethod y ∈ UW ∧ Cond.selects C y y ∈ UW ∧ Cond.initialized C ∈ UW ∧ c1 ∈ UW
theorem uw_V.good {own : String} {idx : Nat} {C : String} {y : MethodName} {c1 : Cond} (h : uw_V own idx C y c1) : GoodIn UW (wsV own idx C y (c1 :: UW)) := by
  obtain ⟨h1, h2, h3, h4, h5⟩ := h
  refine uw_self (fun w hw => ?_)
  simp only [wsV, List.mem_append, List.mem_cons, List.not_mem_nil, or_false] at hw
  rcases hw with (rfl | rfl | rfl | rfl) | (rfl | hw)
  · exact h1
  · exact h2
  · exact h3
  · exact h4
  · exact h5
  · exact hw
def uw_S (own : String) (idx : Nat) (y : MethodName) (c1 : Cond) : Prop := Cond.methodLink own idx y ∈ UW ∧ Cond.static y ∈ UW ∧ Cond.initialized own ∈ UW ∧ c1 ∈ UW
theorem uw_S.good {own : String} {idx : Nat} {y : MethodName} {c1 : Cond} (h : uw_S own idx y c1) : GoodIn UW (wsS own idx y (c1 :: UW)) := by
  obtain ⟨h1, h2, h3, h4⟩ := h
  refine uw_self (fun w hw => ?_)
  simp only [wsS, List.mem_append, List.mem_cons, List.not_mem_nil, or_false] at hw
  rcases hw with (rfl | rfl | rfl) | (rfl | hw)
  · exact h1
  · exact h2
  · exact h3
  · exact h4
  · exact hw
/-! numbers of the system -/
abbrev Mem : Type := Nat → Nat → Int32
abbrev Cf : Type := Nat → (Nat → Int32) → va_E
abbrev CL : List vw_C := [(RX1, TX1, 3), (RX2, TX2, 18), (RX3, TX3, 5), (RX4, TX4, 2), (RX5, TX5, 8), (RX6, TX6, 5), (RX7, TX7, 1), (RX9, TX9, 11), (RX10, TX10, 22)]
/-- a system's world: tables' numbers, array classes, what a cell looks like by its numbers, addresses, how many cells, what else holds -/
abbrev Wd : Type := va_G × List (ClassId × FieldType) × Cf × (Nat → Nat) × Nat × (State → Prop)
abbrev wG (Ω : Wd) : va_G := Ω.1
abbrev wT (Ω : Wd) : List (ClassId × FieldType) := Ω.2.1
abbrev wC (Ω : Wd) : Cf := Ω.2.2.1
abbrev wA (Ω : Wd) : Nat → Nat := Ω.2.2.2.1
abbrev wN (Ω : Wd) : Nat := Ω.2.2.2.2.1
abbrev wX (Ω : Wd) : State → Prop := Ω.2.2.2.2.2
def wd (Ω : Wd) (M : Mem) : va_W := (List.range (wN Ω)).map (fun o => (wA Ω o, wC Ω o (M o)))
theorem wd_get (Ω : Wd) (M : Mem) {o : Nat} (h : o < wN Ω) : (wd Ω M)[o]? = some (wA Ω o, wC Ω o (M o)) := by
  simp [wd, List.getElem?_map, List.getElem?_range h]
theorem wd_set (Ω : Wd) (M : Mem) {o : Nat} (h : o < wN Ω) (f : Nat → Int32) : (wd Ω M).set o (wA Ω o, wC Ω o f) = wd Ω (va_up M o f) := by
  apply List.ext_getElem?
  intro i
  by_cases hi : i < wN Ω
  · rw [wd_get Ω _ hi]
    by_cases e : i = o
    · subst e
      rw [List.getElem?_set_self (by simp [wd, hi])]
      simp [va_up]
    · rw [List.getElem?_set_ne (fun q => e q.symm), wd_get Ω M hi]
      simp [va_up, e]
  · have h1 : (wd Ω (va_up M o f))[i]? = none := by simp [wd]; omega
    have h2 : ((wd Ω M).set o (wA Ω o, wC Ω o f))[i]? = none := by simp [wd]; omega
    rw [h1, h2]
theorem wd_in {Ω : Wd} {M : Mem} {k : Nat} {q : Nat × va_E} (h : (wd Ω M)[k]? = some q) : k < wN Ω ∧ q = (wA Ω k, wC Ω k (M k)) := by
  have hk : k < wN Ω := by
    rcases Nat.lt_or_ge k (wN Ω) with h1 | h1
    · exact h1
    · have h2 : (wd Ω M)[k]? = none := by simp [wd]; omega
      rw [h2] at h; cases h
  rw [wd_get Ω M hk] at h
  exact ⟨hk, (Option.some.inj h).symm⟩
/-- the cells of the system, and the new ones -/
def AA (Ω : Wd) (sz : Nat) : Nat → Prop := fun q => (∃ i, i < wN Ω ∧ wA Ω i = q) ∨ sz ≤ q
def isNest : Cond → Bool
  | .methodLinkNest _ _ _ _ => true
  | .fieldLinkNest _ _ _ _ _ _ => true
  | .castable _ _ => true
  | .declares _ => true
  | _ => false
def NW : List Cond := tables_1.filter isNest
theorem nw_mem {w : Cond} (h : w ∈ tables_1) (hg : isNest w = true) : w ∈ NW := List.mem_filter.mpr ⟨h, hg⟩
/-- what a world must be: apart; what else holds is kept where its cells alone change -/
def OkW (Ω : Wd) : Prop := (∀ i j, i < wN Ω → j < wN Ω → wA Ω i = wA Ω j → i = j) ∧
  (∀ u U : State, wX Ω u → u.WarmedH U.vm → u.heap.size ≤ U.heap.size → (∀ q : Nat, q < u.heap.size → (∀ i, i < wN Ω → wA Ω i ≠ q) → U.heap[q]? = u.heap[q]?) → wX Ω U) ∧
  (∀ (U : State) (g : JFrame) (mk : MethodId) (a : Array Value), wX Ω U → wX Ω (U.calling g mk a)) ∧ (∀ U : State, wX Ω U → ∀ w ∈ NW, va_Nw w U)
theorem wd_D {Ω : Wd} (hO : OkW Ω) (M : Mem) (sz : Nat) : va_D (AA Ω sz) (wd Ω M) := by
  refine ⟨fun i j p q hp hq e => ?_, fun k q hk => ?_⟩
  · obtain ⟨h1, rfl⟩ := wd_in hp
    obtain ⟨h2, rfl⟩ := wd_in hq
    exact hO.1 i j h1 h2 e
  · obtain ⟨h1, rfl⟩ := wd_in hk
    exact Or.inl ⟨k, h1, rfl⟩
def Ok (Ω : Wd) (M : Mem) (U : State) : Prop := va_P (wG Ω) CL (wd Ω M) U.heap ∧ va_K (wG Ω) CL (wT Ω) U ∧ wX Ω U
def Rm (F Lc : Nat) (x : Bool) : Room := { frames := F, cells := if x then 1 else 0, slots := if x then 6 else 0, locals := Lc }
def PreC (Ω : Wd) (av : List Value) (M : Mem) (sz : Nat) : Array Value → State → Prop := va_Pc av (fun U => U.heap.size = sz ∧ Ok Ω M U)
def Qv (Ω : Wd) (v : Option Value) (M' : Mem) (sz : Nat) : Array Value → State → Outcome → State → Prop := fun _ st oc t => oc = .returned v ∧ va_P (wG Ω) CL (wd Ω M') t.heap ∧ va_F (AA Ω sz) st t
def exN : Nat → String
  | 0 => "java/lang/IndexOutOfBoundsException"
  | 1 => "java/lang/IllegalArgumentException"
  | 2 => "java/lang/IllegalStateException"
  | 3 => "java/lang/UnsupportedOperationException"
  | 4 => "java/util/NoSuchElementException"
  | _ => "java/lang/ArithmeticException"
def Xv (Ω : Wd) (k : Nat) (M' : Mem) (sz : Nat) : String → State → State → Prop := fun E st t => E = exN k ∧ va_P (wG Ω) CL (wd Ω M') t.heap ∧ va_F (AA Ω sz) st t
abbrev Out : Type := (Nat ⊕ Option Value) × Mem
/-- a method's contract at one outcome -/
def Ct (l : Launch) (y : MethodName) (cw : Cond) (F Lc : Nat) (Ω : Wd) (av : List Value) (M : Mem) (o : Out) : Prop := match o with
  | (.inr v, M') => ∀ sz, Met l y (cw :: UW) (Rm F Lc false) (PreC Ω av M sz) (Qv Ω v M' sz) 0 0 (AA Ω sz)
  | (.inl k, M') => ∀ sz, vx_Met l y (cw :: UW) (Rm F Lc true) (PreC Ω av M sz) (fun _ _ _ _ => False) (Xv Ω k M' sz) 1 6 (AA Ω sz)
def TQ (s : State) (args : Array Value) (below : List Frame) (Ω : Wd) (o : Out) : State → Prop := match o with
  | (.inr v, M') => MQ below (Qv Ω v M' s.heap.size) args s 0 0 (AA Ω s.heap.size)
  | (.inl k, M') => vx_MQ below (fun _ _ _ _ => False) (Xv Ω k M' s.heap.size) args s 1 6 (AA Ω s.heap.size)
def xb (o : Out) : Bool := match o.1 with
  | .inl _ => true
  | .inr _ => false
/-- what holds in a body -/
def Bd (p : Program) (s : State) (m : MethodId) (args : Array Value) (meth : Method) (c : Code) (cc : ByteArray) (nL : Nat) (own : String) (ret : Option FieldType) (Ω : Wd) : Prop :=
  p.tables.exec = Jvm.exec ∧ c.code = cc ∧ c.maxLocals = nL ∧ s.vm.findClass own = some m.cls ∧ (∀ w ∈ UW, w.before args s = true) ∧ va_K (wG Ω) CL (wT Ω) s ∧ wX Ω s ∧ meth.locks = false ∧ meth.sig.returnType = ret ∧ OkW Ω
def G (p : Program) (l : Launch) (e : Env) (s : State) (m : MethodId) (args : Array Value) (below : List Frame) (meth : Method) (c : Code) (F Lc : Nat) (cc : ByteArray) (nL : Nat) (own : String) (ret : Option FieldType) (Ω : Wd) {β : Type} (cv : β → Out) (b : Option β) (pc : Nat) (L : List (Nat × Value)) (st : List Value) (M : Mem) : Prop :=
  Bd p s m args meth c cc nL own ret Ω → (∀ x ∈ c.exceptionTable.toList, False) → ∀ r, b = some r → ∀ (H : Heap) (locs : List Loc) (ls : Array Slot), va_P (wG Ω) CL (wd Ω M) H → va_S (AA Ω s.heap.size) s.heap H locs → lv_has ls nL L → W p l e (Rm F Lc (xb (cv r))) s m args below meth c H locs 0 0 (TQ s args below Ω (cv r)) (F0 m pc ls st)
/-! the words of functions -/
def grd {β : Type} (t : Bool) (b : Option β) : Option β := if t = true then b else none
def bnd {α β : Type} (v : α) (b : α → Option β) : Option β := b v
def cl {α β : Type} (f : Option (α × Mem)) (k : α → Mem → Option β) : Option β := match f with
  | none => none
  | some (r, M') => k r M'
def clx {α γ : Type} (f : Option ((Nat ⊕ α) × Mem)) (k : α → Mem → Option ((Nat ⊕ γ) × Mem)) : Option ((Nat ⊕ γ) × Mem) := match f with
  | none => none
  | some (.inr r, M') => k r M'
  | some (.inl x, M') => some (.inl x, M')
def jn {S β : Type} (rest : S → Option β) (br : (S → Option β) → Option β) : Option β := br rest
def lp {S β : Type} (f : (S → Option β) → S → Option β) : Nat → S → Option β
  | 0, _ => none
  | n + 1, a => f (lp f n) a
def inb (i : Int32) (n : Nat) : Bool := !(decide (i < 0) || decide (n ≤ i.toNatClampNeg))
theorem inb_in {i : Int32} {n : Nat} (h : inb i n = true) : vp_in i n := by
  simp only [inb, Bool.not_eq_true', Bool.or_eq_false_iff, decide_eq_false_iff_not] at h
  exact fun q => q.elim h.1 h.2
def mset (M : Mem) (o k : Nat) (v : Int32) : Mem := va_up M o (upd (M o) k v)
/-! what an object's fields are: its numbers, and references that stay -/
def ofs : List (Option Value) → Nat → (Nat → Int32) → List Value
  | [], _, _ => []
  | none :: t, k, f => .int (f k) :: ofs t (k + 1) f
  | some v :: t, k, f => v :: ofs t (k + 1) f
theorem ofs_none : ∀ (ds : List (Option Value)) (b k : Nat) (f : Nat → Int32), ds[k]? = some none → (ofs ds b f)[k]? = some (.int (f (b + k)))
  | [], _, _, _, h => by simp at h
  | none :: t, b, 0, f, _ => by simp [ofs]
  | some v :: t, b, 0, f, h => by simp at h
  | none :: t, b, k + 1, f, h => by
    have := ofs_none t (b + 1) k f (by simpa using h)
    simp only [ofs, List.getElem?_cons_succ]
    rw [this]; congr 3; omega
  | some v :: t, b, k + 1, f, h => by
    have := ofs_none t (b + 1) k f (by simpa using h)
    simp only [ofs, List.getElem?_cons_succ]
    rw [this]; congr 3; omega
theorem ofs_some : ∀ (ds : List (Option Value)) (b k : Nat) (f : Nat → Int32) (v : Value), ds[k]? = some (some v) → (ofs ds b f)[k]? = some v
  | [], _, _, _, _, h => by simp at h
  | none :: t, b, 0, f, _, h => by simp at h
  | some w :: t, b, 0, f, v, h => by simp at h; simp [ofs, h]
  | none :: t, b, k + 1, f, v, h => by simpa only [ofs, List.getElem?_cons_succ] using ofs_some t (b + 1) k f v (by simpa using h)
  | some w :: t, b, k + 1, f, v, h => by simpa only [ofs, List.getElem?_cons_succ] using ofs_some t (b + 1) k f v (by simpa using h)
theorem ofs_low : ∀ (ds : List (Option Value)) (b j : Nat) (f : Nat → Int32) (x : Int32), j < b → ofs ds b (upd f j x) = ofs ds b f
  | [], _, _, _, _, _ => rfl
  | none :: t, b, j, f, x, h => by
    simp only [ofs]
    rw [ofs_low t (b + 1) j f x (by omega), pk_un (by omega)]
  | some v :: t, b, j, f, x, h => by
    simp only [ofs]
    rw [ofs_low t (b + 1) j f x (by omega)]
theorem ofs_set : ∀ (ds : List (Option Value)) (b k : Nat) (f : Nat → Int32) (x : Int32), ds[k]? = some none → ofs ds b (upd f (b + k) x) = (ofs ds b f).set k (.int x)
  | [], _, _, _, _, h => by simp at h
  | none :: t, b, 0, f, x, _ => by
    simp only [ofs, List.set_cons_zero, Nat.add_zero]
    rw [pk_us, ofs_low t (b + 1) b f x (by omega)]
  | some v :: t, b, 0, f, x, h => by simp at h
  | none :: t, b, k + 1, f, x, h => by
    have := ofs_set t (b + 1) k f x (by simpa using h)
    rw [show b + (k + 1) = b + 1 + k by omega]
    simp only [ofs, List.set_cons_succ]
    rw [this, pk_un (by omega)]
  | some v :: t, b, k + 1, f, x, h => by
    have := ofs_set t (b + 1) k f x (by simpa using h)
    rw [show b + (k + 1) = b + 1 + k by omega]
    simp only [ofs, List.set_cons_succ]
    rw [this]
theorem ofs_len : ∀ (ds : List (Option Value)) (b : Nat) (f : Nat → Int32), (ofs ds b f).length = ds.length
  | [], _, _ => rfl
  | none :: t, b, f => by simp only [ofs, List.length_cons, ofs_len t]
  | some v :: t, b, f => by simp only [ofs, List.length_cons, ofs_len t]
def oc (ci : Nat) (ds : List (Option Value)) (f : Nat → Int32) : va_E := .inr (ci, ofs ds 0 f)
def ac (cA : ClassId) (n : Nat) (f : Nat → Int32) : va_E := .inl (cA, n, .inl f)
def rc (cA : ClassId) (n : Nat) (g : Nat → Option Nat) (_ : Nat → Int32) : va_E := .inl (cA, n, .inr (.inr (.inr (.inr g))))
