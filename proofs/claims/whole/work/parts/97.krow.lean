/-! constructors: stores into arrays, a new object by its constructor; blocks of cells -/
section GK2
variable {p : Program} {l : Launch} {e : Env} {s : State} {m : MethodId} {args : Array Value} {below : List Frame} {meth : Method} {c : Code} {F Lc CC SS : Nat} {cc : ByteArray} {nL : Nat} {own : String} {D : va_G} {cy : Nat → ClassId} {gx : State → Prop} {z0 h0 : Nat} {B : va_W → Prop} {pc cells slots : Nat} {L : List (Nat × Value)} {st : List Value} {ws : va_W}
abbrev rfs (cA : ClassId) (n : Nat) (f : Nat → Option Nat) : va_E := .inl (cA, n, .inr (.inr (.inr (.inr f))))
theorem k_astq (q0 ti qk : Nat) {a ci n v : Nat} {f : Nat → Option Nat} {vs : List Value} {r : vw_C} {i : Int32} (ha : ws[q0]? = some (a, rfs (cy ti) n f)) (ht : (tyX cy)[ti]? = some (cy ti, .object r.1)) (hv : ws[qk]? = some (v, .inr (ci, vs))) (hc : CL[ci]? = some r) (hin : vp_in i n) (ws' : va_W) (hws : ws.set q0 (a, rfs (cy ti) n (va_up f i.toNatClampNeg (some v))) = ws') (nx : Nat) (hnx : pc + 1 = nx) (d : decode cc pc = .ok (.aastore, 1)) (k : GK p l e s m args below meth c F Lc CC SS cc nL own D cy gx z0 h0 B cells slots nx L st ws') : GK p l e s m args below meth c F Lc CC SS cc nL own D cy gx z0 h0 B cells slots pc L (.ref v :: .int i :: .ref a :: st) ws := fun K H locs ls hP hD hS hl => by
  subst hnx; subst hws
  exact va_astq K.1 K.2.1 K.2.2.2.2.2.1 hP hD hS q0 ti qk ci ha ht hv hc hin d (fun H1 locs1 hP1 hD1 hS1 => k K H1 locs1 ls hP1 hD1 hS1 hl)
theorem k_iast (q0 : Nat) {a n : Nat} {f : Nat → Int32} {i x : Int32} (ha : ws[q0]? = some (a, ac (cy 0) n f)) (hin : vp_in i n) (ws' : va_W) (hws : ws.set q0 (a, ac (cy 0) n (upd f i.toNatClampNeg x)) = ws') (nx : Nat) (hnx : pc + 1 = nx) (d : decode cc pc = .ok (.iastore, 1)) (k : GK p l e s m args below meth c F Lc CC SS cc nL own D cy gx z0 h0 B cells slots nx L st ws') : GK p l e s m args below meth c F Lc CC SS cc nL own D cy gx z0 h0 B cells slots pc L (.int x :: .int i :: .ref a :: st) ws := fun K H locs ls hP hD hS hl => by
  subst hnx; subst hws
  exact va_iast K.1 K.2.1 K.2.2.2.2.2.1 hP hD hS q0 0 ha rfl hin d (fun H1 locs1 hP1 hD1 hS1 => k K H1 locs1 ls hP1 hD1 hS1 hl)
/-- behind a constructor's call: the older cells and the block -/
theorem k_join {ws1 : va_W} {H1 H2 : Heap} {A : Nat → Prop} {q : Nat} (hP : va_P D CL ws H1) (hD : va_D A ws) (hne : ∀ (k : Nat) (x : Nat × va_E), ws[k]? = some x → x.1 ≠ q) (hk : ∀ x : Nat, x < H1.size → ¬ AK q H1.size x → H2[x]? = H1[x]?) (hA : ∀ x : Nat, AK q H1.size x → A x) (hP1 : va_P D CL ws1 H2) (hD1 : va_D (AK q H1.size) ws1) : va_P D CL (ws ++ ws1) H2 ∧ va_D A (ws ++ ws1) := by
  have h0 : ∀ (k : Nat) (x : Nat × va_E), ws[k]? = some x → x.1 < H1.size ∧ ¬ AK q H1.size x.1 := fun k x hx => by
    have h1 := (hP k x hx).lt
    refine ⟨h1, fun z => ?_⟩
    rcases z with z | z
    · exact hne k x hx z
    · omega
  exact ⟨va_P.app (hP.kept (fun k x hx => hk x.1 (h0 k x hx).1 (h0 k x hx).2)) hP1, va_D.app hD (hD1.weaken (fun k x hx h => hA x.1 h)) (fun i j x y hx hy hxy => (h0 i x hx).2 (by rw [hxy]; exact hD1.2 j y hy))⟩
def CtN (own : String) (idx : Nat) (y : MethodName) : Prop := Cond.methodLink own idx y ∈ UW ∨ ∃ host, Cond.methodLinkNest own idx y host ∈ NW
/-- new, dup, the constructor -/
theorem k_newO {C : String} {T : u_T} {N ci : Nat} (hcl : CL[ci]? = some (C, T, N)) (hin : ∀ w ∈ u_ws C T N, w ∈ UW) (ty0 : Nat → FieldType) (hty : ∀ k, k < N → parseFieldDescriptor (T k).2.2.1 = some (ty0 k)) {fs : List Value} (hfs : ∀ j, j < N → defaultValue (ty0 j) = vp_V fs j) {i1 i2 : Nat} (h1 : Cond.classLink own i1 C ∈ UW) (h2 : Cond.instantiable C N ∈ UW) (h3 : Cond.initialized C ∈ UW) {y : MethodName} {cc' : ByteArray} {nL' F' Lc' C' S' : Nat} (hy : yOk y 0) (hyn : y.name = "<init>") (hyc : y.cls = C) (h4 : CtN own i2 y) (h5 : Cond.instanceMethod y ∈ UW) (h6 : Cond.code y cc' nL' none ∈ UW) {B1 : Nat → va_W → Prop} (hM : ∀ q, CtK l y (.code y cc' nL' none) F' Lc' C' S' D cy gx z0 q ci fs (B1 q)) (hR : F' + 1 ≤ F ∧ 8 + (nL' + 11) + Lc' ≤ Lc) (c' s' : Nat) (hc' : cells + (1 + C') = c') (hs' : slots + (N + S') = s') (hcl2 : c' ≤ CC) (hsl2 : s' ≤ SS) (hw : (st.map fun v => v.category).sum ≤ 7) (nx : Nat) (hnx : pc + 7 = nx) (d1 : decode cc pc = .ok (.new i1, 3)) (d2 : decode cc (pc + 3) = .ok (.dup, 1)) (d3 : decode cc (pc + 4) = .ok (.invokespecial i2, 3)) (k : ∀ q ws1, B1 q ws1 → GK p l e s m args below meth c F Lc CC SS cc nL own D cy gx z0 h0 B c' s' nx L (.ref q :: st) (ws ++ ws1)) : GK p l e s m args below meth c F Lc CC SS cc nL own D cy gx z0 h0 B cells slots pc L st ws := fun K H locs ls hP hD hS hl => by
  subst hnx; subst hc'; subst hs'
  have hG := K.2.2.2.2.2.2.2.2.2.1
  have hz0 := K.2.2.2.2.2.2.2.2.2.2.2.1
  have hh0 := K.2.2.2.2.2.2.2.2.2.2.2.2
  refine va_new (ci := ci) (fs := fs) (C := C) (T := T) (N := N) K.1 K.2.1 K.2.2.2.2.1 hin ty0 hty K.2.2.2.1 (K.2.2.2.2.1 _ h1) (K.2.2.2.2.1 _ h2) (K.2.2.2.2.1 _ h3) K.2.2.2.2.2.1 hP hD hS (kA K) hcl hfs (by show _ ≤ CC; omega) (by show _ ≤ SS; omega) d1 (fun q H1 hP1 hD1 hS1 => ?_)
  refine lv_dup K.1 K.2.1 d2 rfl ?_
  have hq1 : q < H1.size := (hP1 ws.length (q, .inr (ci, fs)) (by simp)).lt
  have hne : ∀ (k : Nat) (x : Nat × va_E), ws[k]? = some x → x.1 ≠ q := fun k x hx e => by
    have hk : k < ws.length := (List.getElem?_eq_some_iff.mp hx).1
    have := hD1.1 k ws.length x (q, .inr (ci, fs)) (by rw [List.getElem?_append_left hk]; exact hx) (by simp) e
    omega
  have hPw : va_P D CL ws H1 := fun k x hx => hP1 k x (by rw [List.getElem?_append_left (List.getElem?_eq_some_iff.mp hx).1]; exact hx)
  have hDw : va_D (AK h0 s.heap.size) ws := hD
  have hqA : AK h0 s.heap.size q := hD1.2 ws.length (q, .inr (ci, fs)) (by simp)
  have hqz : z0 ≤ q := by
    rcases hqA with h | h <;> omega
  have hkeep : ∀ x : Nat, x < z0 → H1[x]? = s.heap[x]? := fun x hx => hS1.2.1 x (by omega) (fun z => by rcases z with z | z <;> omega)
  have hAA : ∀ x : Nat, AK q H1.size x → AK h0 s.heap.size x := fun x hx => by
    rcases hx with rfl | hx
    · exact hqA
    · exact Or.inr (Nat.le_trans hS1.1 hx)
  have hpre : ∀ U : State, U.heap = H1 → s.WarmedH U.vm → PreK D cy gx q ci fs H1.size ([.ref q] : List Value).toArray U := by
    intro U hU hW
    refine ⟨rfl, by rw [hU], ?_, va_K.moved hW.alike K.2.2.2.2.2.1, hG.1 s U K.2.2.2.2.2.2.1 hW (by rw [hU]; exact hS1.1) (fun x hx => by rw [hU]; exact hkeep x hx)⟩
    rw [hU]
    intro i x hx
    have hi : i < 1 := (List.getElem?_eq_some_iff.mp hx).1
    have hi0 : i = 0 := by omega
    subst hi0
    cases hx
    exact hP1 ws.length (q, .inr (ci, fs)) (by simp)
  have hbl : FrameBlind (PreK D cy gx q ci fs H1.size) := fun a U g mk w => by
    obtain ⟨w0, w1, w2, w3, w4⟩ := w
    exact ⟨w0, w1, w2, va_K.moved (u := U) (U := U.calling g mk a) (Vm.Alike.refl U.vm) w3, hG.2.1 U g mk a w4⟩
  have hini : (Cond.initialized y.cls).before args s = true := by rw [hyc]; exact K.2.2.2.2.1 _ h3
  have hr : va_Run p l e (Rk F Lc CC SS) s m args below meth c H1 locs (cells + 1) (slots + N) C' S' (F0 m (pc + 3 + 1) ls (.ref q :: .ref q :: st)) (.ref q :: st) (QK D (B1 q) q H1.size (Value.ref q :: []).toArray) (AK q H1.size) := by
    have hfit : (cells + 1) + C' ≤ (Rk F Lc CC SS).cells ∧ (slots + N) + S' ≤ (Rk F Lc CC SS).slots := ⟨by show _ ≤ CC; omega, by show _ ≤ SS; omega⟩
    have hw2 : 2 * (F0 m (pc + 3 + 1) ls (.ref q :: .ref q :: st)).monitorRoom + ((Value.ref q :: st).map fun v => v.category).sum ≤ 8 := lv_room (by show (1 + (st.map fun v => v.category).sum) ≤ 8; omega)
    rcases h4 with h4 | ⟨host, h4⟩
    · exact va_runI (As := []) (rest := .ref q :: st) ⟨K.1, K.2.1, K.2.2.1, K.2.2.2.1, K.2.2.2.2.1⟩ (hM q H1.size hqz hq1) ⟨callB_of 0 K.2.2.2.2.1 (uw_c h6) rfl rfl rfl hini (K.2.2.2.2.1 _ h4) hy hR, hyn, K.2.2.2.2.1 _ h5⟩ ⟨hbl, hpre⟩ rfl rfl hl.1 rfl hw2 d3 hfit
    · exact va_runIN (As := []) (rest := .ref q :: st) (host := host) ⟨K.1, K.2.1, K.2.2.1, K.2.2.2.1, K.2.2.2.2.1⟩ (hM q H1.size hqz hq1) ⟨va_cnB 0 K.2.2.2.2.1 (uw_c h6) rfl rfl rfl (hG.2.2.1 s K.2.2.2.2.2.2.1 _ h4) hini hy hR, hyn, K.2.2.2.2.1 _ h5⟩ ⟨hbl, hpre⟩ rfl rfl hl.1 rfl hw2 d3 hfit
  intro T' hT' X'
  obtain ⟨v', st₀, t, T2, L1, q0', X2, hL, w1, w2, ⟨hv, ⟨ws1, hB1, hP2, hD2⟩, hz, hkk⟩, stp⟩ := hr T' hT' X'
  cases hv
  rw [q0'] at hz hkk
  obtain ⟨hPj, hDj⟩ := k_join hPw hDw hne hkk hAA hP2 hD2
  rw [show cells + 1 + C' = cells + (1 + C') by omega, show slots + N + S' = slots + (N + S') by omega] at X2
  obtain ⟨t2, a1, b1⟩ := k q ws1 hB1 K T2.heap (locs ++ L1) ls (by rw [w1]; exact hPj) hDj ⟨Nat.le_trans hS1.1 (by rw [w1]; exact hz), fun x g1 g2 => by rw [w1, hkk x (Nat.lt_of_lt_of_le g1 hS1.1) (fun z => g2 (hAA x z))]; exact hS1.2.1 x g1 g2, fun x hx => by
      rcases List.mem_append.mp hx with h | h
      · exact hS1.2.2 x h
      · exact hAA _ (hL x h)⟩ hl T2 rfl X2
  exact ⟨t2, stp t2 a1, b1⟩
/-- the end, with the cells in another order -/
theorem k_retS {a b1 b2 : va_W} (he : ws = (a ++ b1) ++ b2) (hB : B ((a ++ b2) ++ b1)) (hc : cells ≤ CC) (hs : slots ≤ SS) (d : decode cc pc = .ok (.return_, 1)) : GK p l e s m args below meth c F Lc CC SS cc nL own D cy gx z0 h0 B cells slots pc L [] ws := fun K H locs ls hP hD hS hl => by
  subst he
  exact k_ret hB hc hs d K H locs ls hP.swap hD.swap hS hl
end GK2
/-! blocks -/
def wl (n : Nat) (g : Nat → Nat × va_E) : va_W := (List.range n).map g
theorem wl_len (n : Nat) (g : Nat → Nat × va_E) : (wl n g).length = n := by simp [wl]
theorem wl_get {n : Nat} {g : Nat → Nat × va_E} {i : Nat} (h : i < n) : (wl n g)[i]? = some (g i) := by simp [wl, List.getElem?_range h]
theorem wl_congr {n : Nat} {g g' : Nat → Nat × va_E} (h : ∀ k, k < n → g k = g' k) : wl n g = wl n g' := List.map_congr_left (fun k hk => h k (List.mem_range.mp hk))
theorem wl_add (a b : Nat) (g : Nat → Nat × va_E) : wl (a + b) g = wl a g ++ wl b (fun k => g (a + k)) := by
  unfold wl
  rw [List.range_add, List.map_append, List.map_map]
  rfl
theorem wl_one (g : Nat → Nat × va_E) : wl 1 g = [g 0] := rfl
def bks (m : Nat) (g : Nat → Nat → Nat × va_E) : Nat → va_W
  | 0 => []
  | i + 1 => bks m g i ++ wl m (g i)
theorem bks_congr {m : Nat} {g g' : Nat → Nat → Nat × va_E} : ∀ (n : Nat), (∀ i, i < n → ∀ k, k < m → g i k = g' i k) → bks m g n = bks m g' n
  | 0, _ => rfl
  | n + 1, h => by
    show bks m g n ++ _ = bks m g' n ++ _
    rw [bks_congr n (fun i hi => h i (by omega)), wl_congr (h n (by omega))]
theorem bks_wl {m : Nat} (hm : 0 < m) (g : Nat → Nat → Nat × va_E) : ∀ n, bks m g n = wl (m * n) (fun o => g (o / m) (o % m))
  | 0 => rfl
  | n + 1 => by
    show bks m g n ++ _ = _
    rw [bks_wl hm g n, Nat.mul_succ, wl_add]
    congr 1
    refine wl_congr (fun k hk => ?_)
    rw [Nat.mul_add_div hm, Nat.mul_add_mod, Nat.div_eq_of_lt hk, Nat.mod_eq_of_lt hk, Nat.add_zero]

