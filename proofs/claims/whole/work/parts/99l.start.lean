/-! the law's start: what the tables give; two new objects -/
theorem k_types {s : State} {args : Array Value} (ht : ∀ w ∈ tables_1, w.before args s = true) (hU : ∀ w ∈ UW, w.before args s = true) : ∃ (D : va_G) (cy : Nat → ClassId), va_K D CL (tyX cy) s := by
  have h0 : ∀ k : Nat, ∃ z : ClassId × (Nat → Nat), ∀ q : vw_C, CL[k]? = some q → u_Kn s q.1 q.2.1 q.2.2 z.1 z.2 := by
    intro k
    match k with
    | 0 =>
      obtain ⟨cC, iS, h⟩ := u_known (C := RX1) (T := TX1) (N := 3) (n := 3) hU in_X1 (ht _ (tb1 (List.mem_of_getElem? (i := 159) rfl)))
      exact ⟨(cC, iS), fun q hq => by cases hq; exact h⟩
    | 1 =>
      obtain ⟨cC, iS, h⟩ := u_known (C := RX2) (T := TX2) (N := 18) (n := 18) hU in_X2 (ht _ (tb1 (List.mem_of_getElem? (i := 49) rfl)))
      exact ⟨(cC, iS), fun q hq => by cases hq; exact h⟩
    | 2 =>
      obtain ⟨cC, iS, h⟩ := u_known (C := RX3) (T := TX3) (N := 5) (n := 5) hU in_X3 (ht _ (tb1 (List.mem_of_getElem? (i := 179) rfl)))
      exact ⟨(cC, iS), fun q hq => by cases hq; exact h⟩
    | 3 =>
      obtain ⟨cC, iS, h⟩ := u_known (C := RX4) (T := TX4) (N := 2) (n := 2) hU in_X4 (ht _ (tb2 (List.mem_of_getElem? (i := 11) rfl)))
      exact ⟨(cC, iS), fun q hq => by cases hq; exact h⟩
    | 4 =>
      obtain ⟨cC, iS, h⟩ := u_known (C := RX5) (T := TX5) (N := 8) (n := 8) hU in_X5 (ht _ (tb1 (List.mem_of_getElem? (i := 213) rfl)))
      exact ⟨(cC, iS), fun q hq => by cases hq; exact h⟩
    | 5 =>
      obtain ⟨cC, iS, h⟩ := u_known (C := RX6) (T := TX6) (N := 5) (n := 5) hU in_X6 (ht _ (tb1 (List.mem_of_getElem? (i := 42) rfl)))
      exact ⟨(cC, iS), fun q hq => by cases hq; exact h⟩
    | 6 =>
      obtain ⟨cC, iS, h⟩ := u_known (C := RX7) (T := TX7) (N := 1) (n := 1) hU in_X7 (ht _ (tb1 (List.mem_of_getElem? (i := 203) rfl)))
      exact ⟨(cC, iS), fun q hq => by cases hq; exact h⟩
    | 7 =>
      obtain ⟨cC, iS, h⟩ := u_known (C := RX9) (T := TX9) (N := 11) (n := 11) hU in_X9 (ht _ (tb1 (List.mem_of_getElem? (i := 34) rfl)))
      exact ⟨(cC, iS), fun q hq => by cases hq; exact h⟩
    | 8 =>
      obtain ⟨cC, iS, h⟩ := u_known (C := RX10) (T := TX10) (N := 22) (n := 22) hU in_X10 (ht _ (tb6 (List.mem_of_getElem? (i := 125) rfl)))
      exact ⟨(cC, iS), fun q hq => by cases hq; exact h⟩
    | n + 9 => exact ⟨(0, fun _ => 0), fun q hq => by simp [CL] at hq⟩
  obtain ⟨z, hz⟩ := Classical.axiomOfChoice h0
  have h1 : ∀ k : Nat, ∃ c : ClassId, ∀ ty : FieldType, ([.int, .char, .object "SignalRoad$Junction", .object "SignalRoad$State", .object "SignalRoad$Word", .long, .double] : List FieldType)[k]? = some ty → ArrOfT s c ty ∧ va_RA s c ty := by
    have pr : ∀ ty : FieldType, (∀ C, ty ≠ .object C) → (Cond.arrayClass ty).before args s = true → ∃ c : ClassId, ArrOfT s c ty ∧ va_RA s c ty := fun ty hn h => by
      obtain ⟨c, k, comp, f1, f2, f3⟩ := Cond.arrayClass_spec h
      refine ⟨c, fun N z => ⟨(fun k h => by cases h), k, f2, comp, f3⟩, ?_⟩
      unfold va_RA
      split
      · exact absurd rfl (hn _)
      · exact f1
    have ob : ∀ C : String, (Cond.arrayOver (.object C)).before args s = true → ∃ c : ClassId, ArrOfT s c (.object C) ∧ va_RA s c (.object C) := fun C h => by
      obtain ⟨comp, c, k, f1, -, f2, f3, f4⟩ := Cond.arrayOver_spec h
      exact ⟨c, fun N z => ⟨(fun k h => by cases h), k, f2, comp, f3⟩, ⟨k, comp, f2, f3, f1, f4⟩⟩
    intro k
    match k with
    | 0 =>
      obtain ⟨c, h⟩ := pr .int (fun C h => by cases h) (ht _ (tb1 (List.mem_of_getElem? (i := 133) rfl)))
      exact ⟨c, fun ty hq => by cases hq; exact h⟩
    | 1 =>
      obtain ⟨c, h⟩ := pr .char (fun C h => by cases h) (ht _ (tb2 (List.mem_of_getElem? (i := 9) rfl)))
      exact ⟨c, fun ty hq => by cases hq; exact h⟩
    | 2 =>
      obtain ⟨c, h⟩ := ob "SignalRoad$Junction" (ht _ (tb1 (List.mem_of_getElem? (i := 48) rfl)))
      exact ⟨c, fun ty hq => by cases hq; exact h⟩
    | 3 =>
      obtain ⟨c, h⟩ := ob "SignalRoad$State" (ht _ (tb1 (List.mem_of_getElem? (i := 165) rfl)))
      exact ⟨c, fun ty hq => by cases hq; exact h⟩
    | 4 =>
      obtain ⟨c, h⟩ := ob "SignalRoad$Word" (ht _ (tb1 (List.mem_of_getElem? (i := 219) rfl)))
      exact ⟨c, fun ty hq => by cases hq; exact h⟩
    | 5 =>
      obtain ⟨c, h⟩ := pr .long (fun C h => by cases h) (ht _ (tb8 (List.mem_of_getElem? (i := 138) rfl)))
      exact ⟨c, fun ty hq => by cases hq; exact h⟩
    | 6 =>
      obtain ⟨c, h⟩ := pr .double (fun C h => by cases h) (ht _ (tb8 (List.mem_of_getElem? (i := 139) rfl)))
      exact ⟨c, fun ty hq => by cases hq; exact h⟩
    | n + 7 => exact ⟨0, fun ty hq => by simp at hq⟩
  obtain ⟨cy, hcy⟩ := Classical.axiomOfChoice h1
  refine ⟨(fun k => (z k).1, fun k => (z k).2), cy, fun k q hq => hz k q hq, fun k q hq => ?_⟩
  match k, hq with
  | 0, hq => cases hq; exact hcy 0 _ rfl
  | 1, hq => cases hq; exact hcy 1 _ rfl
  | 2, hq => cases hq; exact hcy 2 _ rfl
  | 3, hq => cases hq; exact hcy 3 _ rfl
  | 4, hq => cases hq; exact hcy 4 _ rfl
  | 5, hq => cases hq; exact hcy 5 _ rfl
  | 6, hq => cases hq; exact hcy 6 _ rfl
  | n + 7, hq => simp [tyX] at hq
section LNW
variable {p : Program} {l : Launch} {e : Env} {s : State} {m : MethodId} {below : List Frame} {meth : Method} {c : Code} {b : Nat} {D : va_G} {cy : Nat → ClassId} {H : Heap} {locs : List Loc} {cells slots pc : Nat} {ls : Array Slot} {L : List (Nat × Value)} {st : List Value} {Q : State → Prop} {ws : va_W}
theorem law_newO (hx : p.tables.exec = Jvm.exec) (hb : c.code = code) (hml : c.maxLocals = 9) (hown : s.vm.findClass RL = some m.cls) (hU : ∀ w ∈ UW, w.before #[Value.ref b] s = true) (hK : va_K D CL (tyX cy) s) (hg : GX s s) (hG : GxOk (GX s) s.heap.size) {C : String} {T : u_T} {N ci : Nat} (hcl : CL[ci]? = some (C, T, N)) (hin : ∀ w ∈ u_ws C T N, w ∈ UW) (ty0 : Nat → FieldType) (hty : ∀ k, k < N → parseFieldDescriptor (T k).2.2.1 = some (ty0 k)) {fs : List Value} (hfs : ∀ j, j < N → defaultValue (ty0 j) = vp_V fs j) {i1 i2 : Nat} (h1 : Cond.classLink RL i1 C ∈ UW) (h2 : Cond.instantiable C N ∈ UW) (h3 : Cond.initialized C ∈ UW) {y : MethodName} {cc' : ByteArray} {nL' F' Lc' C' S' : Nat} (hy : yOk y 0) (hyn : y.name = "<init>") (hyc : y.cls = C) (h4 : Cond.methodLink RL i2 y ∈ UW) (h5 : Cond.instanceMethod y ∈ UW) (h6 : Cond.code y cc' nL' none ∈ UW) {B1 : Nat → va_W → Prop} (hM : ∀ q, CtK l y (.code y cc' nL' none) F' Lc' C' S' D cy (GX s) s.heap.size q ci fs (B1 q)) (hR : F' + 1 ≤ 2048 ∧ 8 + (nL' + 11) + Lc' ≤ 94400) (c' s' : Nat) (hc' : cells + (1 + C') = c') (hs' : slots + (N + S') = s') (hcl2 : c' ≤ 603072) (hsl2 : s' ≤ 7211114) (hw : (st.map fun v => v.category).sum ≤ 7) (d1 : decode code pc = .ok (.new i1, 3)) (d2 : decode code (pc + 3) = .ok (.dup, 1)) (d3 : decode code (pc + 4) = .ok (.invokespecial i2, 3)) (hP : va_P D CL ws H) (hD : va_D (A0 s) ws) (hS : va_S (A0 s) s.heap H locs) (hl : lv_has ls 9 L)
    (k : ∀ (q : Nat) (ws1 : va_W) (H1 : Heap) (locs1 : List Loc), B1 q ws1 → va_P D CL (ws ++ ws1) H1 → va_D (A0 s) (ws ++ ws1) → va_S (A0 s) s.heap H1 locs1 → W p l e room_1 s m #[Value.ref b] below meth c H1 locs1 c' s' Q (F0 m (pc + 7) ls (.ref q :: st))) : W p l e room_1 s m #[Value.ref b] below meth c H locs cells slots Q (F0 m pc ls st) := by
  subst hc'; subst hs'
  refine va_new (ci := ci) (fs := fs) (C := C) (T := T) (N := N) hx hb hU hin ty0 hty hown (hU _ h1) (hU _ h2) (hU _ h3) hK hP hD hS (fun q h => h) hcl hfs (by show _ ≤ 603072; omega) (by show _ ≤ 7211114; omega) d1 (fun q H1 hP1 hD1 hS1 => ?_)
  refine lv_dup hx hb d2 rfl ?_
  have hq1 : q < H1.size := (hP1 ws.length (q, .inr (ci, fs)) (by simp)).lt
  have hne : ∀ (k : Nat) (x : Nat × va_E), ws[k]? = some x → x.1 ≠ q := fun k x hx e => by
    have hk : k < ws.length := (List.getElem?_eq_some_iff.mp hx).1
    have := hD1.1 k ws.length x (q, .inr (ci, fs)) (by rw [List.getElem?_append_left hk]; exact hx) (by simp) e
    omega
  have hPw : va_P D CL ws H1 := fun k x hx => hP1 k x (by rw [List.getElem?_append_left (List.getElem?_eq_some_iff.mp hx).1]; exact hx)
  have hqA : s.heap.size ≤ q := hD1.2 ws.length (q, .inr (ci, fs)) (by simp)
  have hAA : ∀ x : Nat, AK q H1.size x → A0 s x := fun x hx => by
    rcases hx with rfl | hx
    · exact hqA
    · exact Nat.le_trans hS1.1 hx
  have hpre : ∀ U : State, U.heap = H1 → s.WarmedH U.vm → PreK D cy (GX s) q ci fs H1.size ([.ref q] : List Value).toArray U := by
    intro U hU hW
    refine ⟨rfl, by rw [hU], ?_, va_K.moved hW.alike hK, hg.next hW (by rw [hU]; exact hS1.1) (fun x hx => by rw [hU]; exact hS1.2.1 x hx (Nat.not_le.mpr hx))⟩
    rw [hU]
    intro i x hx
    have hi : i < 1 := (List.getElem?_eq_some_iff.mp hx).1
    have hi0 : i = 0 := by omega
    subst hi0
    cases hx
    exact hP1 ws.length (q, .inr (ci, fs)) (by simp)
  have hbl : FrameBlind (PreK D cy (GX s) q ci fs H1.size) := fun a U g mk w => by
    obtain ⟨w0, w1, w2, w3, w4⟩ := w
    exact ⟨w0, w1, w2, va_K.moved (u := U) (U := U.calling g mk a) (Vm.Alike.refl U.vm) w3, hG.2.1 U g mk a w4⟩
  have hini : (Cond.initialized y.cls).before #[Value.ref b] s = true := by rw [hyc]; exact hU _ h3
  have hfit : (cells + 1) + C' ≤ room_1.cells ∧ (slots + N) + S' ≤ room_1.slots := ⟨by show _ ≤ 603072; omega, by show _ ≤ 7211114; omega⟩
  have hw2 : 2 * (F0 m (pc + 3 + 1) ls (.ref q :: .ref q :: st)).monitorRoom + ((Value.ref q :: st).map fun v => v.category).sum ≤ 8 := lv_room (by show (1 + (st.map fun v => v.category).sum) ≤ 8; omega)
  have hr : va_Run p l e room_1 s m #[Value.ref b] below meth c H1 locs (cells + 1) (slots + N) C' S' (F0 m (pc + 3 + 1) ls (.ref q :: .ref q :: st)) (.ref q :: st) (QK D (B1 q) q H1.size (Value.ref q :: []).toArray) (AK q H1.size) :=
    va_runI (As := []) (rest := .ref q :: st) ⟨hx, hb, hml, hown, hU⟩ (hM q H1.size hqA hq1) ⟨callB_of 0 hU (uw_c h6) rfl rfl rfl hini (hU _ h4) hy hR, hyn, hU _ h5⟩ ⟨hbl, hpre⟩ rfl rfl hl.1 rfl hw2 d3 hfit
  intro T' hT' X'
  obtain ⟨v', st₀, t, T2, L1, q0', X2, hL, w1, w2, ⟨hv, ⟨ws1, hB1, hP2, hD2⟩, hz, hkk⟩, stp⟩ := hr T' hT' X'
  cases hv
  rw [q0'] at hz hkk
  obtain ⟨hPj, hDj⟩ := k_join hPw hD hne hkk hAA hP2 hD2
  rw [show cells + 1 + C' = cells + (1 + C') by omega, show slots + N + S' = slots + (N + S') by omega] at X2
  obtain ⟨t2, a1, b1⟩ := k q ws1 T2.heap (locs ++ L1) hB1 (by rw [w1]; exact hPj) hDj ⟨Nat.le_trans hS1.1 (by rw [w1]; exact hz), fun x g1 g2 => by rw [w1, hkk x (Nat.lt_of_lt_of_le g1 hS1.1) (fun z => g2 (hAA x z))]; exact hS1.2.1 x g1 g2, fun x hx => by
      rcases List.mem_append.mp hx with h | h
      · exact hS1.2.2 x h
      · exact hAA _ (hL x h)⟩ T2 rfl X2
  exact ⟨t2, stp t2 a1, b1⟩
end LNW
