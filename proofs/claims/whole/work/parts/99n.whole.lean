/-! the whole -/
theorem nxw0 : Cond.classLink RL 8 RX9 ∈ UW := tbu (tb1 (List.mem_of_getElem? (i := 33) rfl)) rfl
theorem nxw1 : Cond.instantiable RX9 11 ∈ UW := tbu (tb1 (List.mem_of_getElem? (i := 34) rfl)) rfl
theorem nxw2 : Cond.initialized RX9 ∈ UW := tbu (tb1 (List.mem_of_getElem? (i := 1) rfl)) rfl
theorem nxw3 : Cond.methodLink RL 148 yX9_init ∈ UW := tbu (tb1 (List.mem_of_getElem? (i := 35) rfl)) rfl
theorem nxw4 : Cond.instanceMethod yX9_init ∈ UW := tbu (tb1 (List.mem_of_getElem? (i := 36) rfl)) rfl
theorem nxw5 : Cond.code yX9_init cX9_init 1 none ∈ UW := tbu (tb1 (List.mem_of_getElem? (i := 37) rfl)) rfl
theorem nxwy : yOk yX9_init 0 := ⟨by decide +kernel, by decide +kernel, by decide +kernel⟩
theorem nmw0 : Cond.classLink RL 149 RX10 ∈ UW := tbu (tb6 (List.mem_of_getElem? (i := 124) rfl)) rfl
theorem nmw1 : Cond.instantiable RX10 22 ∈ UW := tbu (tb6 (List.mem_of_getElem? (i := 125) rfl)) rfl
theorem nmw2 : Cond.initialized RX10 ∈ UW := tbu (tb1 (List.mem_of_getElem? (i := 10) rfl)) rfl
theorem nmw3 : Cond.methodLink RL 151 yX10_init ∈ UW := tbu (tb6 (List.mem_of_getElem? (i := 126) rfl)) rfl
theorem nmw4 : Cond.instanceMethod yX10_init ∈ UW := tbu (tb6 (List.mem_of_getElem? (i := 127) rfl)) rfl
theorem nmw5 : Cond.code yX10_init cX10_init 1 none ∈ UW := tbu (tb6 (List.mem_of_getElem? (i := 128) rfl)) rfl
theorem nmwy : yOk yX10_init 0 := ⟨by decide +kernel, by decide +kernel, by decide +kernel⟩
theorem kd_X9 : ∀ j, j < 11 → defaultValue (tyX9 j) = vp_V [.null, .null, .null, .null, .null, .null, .null, .null, .int 0, .int 0, .int 0] j := fun j hj => by
  rcases (show j = 0 ∨ j = 1 ∨ j = 2 ∨ j = 3 ∨ j = 4 ∨ j = 5 ∨ j = 6 ∨ j = 7 ∨ j = 8 ∨ j = 9 ∨ j = 10 by omega) with rfl | rfl | rfl | rfl | rfl | rfl | rfl | rfl | rfl | rfl | rfl <;> rfl
theorem kd_X10 : ∀ j, j < 22 → defaultValue (tyX10 j) = vp_V [.int 0, .null, .null, .int 0, .null, .int 0, .null, .null, .int 0, .int 0, .int 0, .int 0, .null, .int 0, .null, .null, .null, .null, .null, .int 0, .int 0, .int 0] j := fun j hj => by
  rcases (show j = 0 ∨ j = 1 ∨ j = 2 ∨ j = 3 ∨ j = 4 ∨ j = 5 ∨ j = 6 ∨ j = 7 ∨ j = 8 ∨ j = 9 ∨ j = 10 ∨ j = 11 ∨ j = 12 ∨ j = 13 ∨ j = 14 ∨ j = 15 ∨ j = 16 ∨ j = 17 ∨ j = 18 ∨ j = 19 ∨ j = 20 ∨ j = 21 by omega) with rfl | rfl | rfl | rfl | rfl | rfl | rfl | rfl | rfl | rfl | rfl | rfl | rfl | rfl | rfl | rfl | rfl | rfl | rfl | rfl | rfl | rfl <;> rfl
theorem p_split {D : va_G} {a w : va_W} {H : Heap} (h : va_P D CL (a ++ w) H) : va_P D CL a H ∧ va_P D CL w H :=
  ⟨fun k q hq => h k q (by rw [List.getElem?_append_left (List.getElem?_eq_some_iff.mp hq).1]; exact hq), fun k q hq => h (a.length + k) q (by rw [List.getElem?_append_right (Nat.le_add_right _ _), Nat.add_sub_cancel_left]; exact hq)⟩
theorem d_split {A : Nat → Prop} {a w : va_W} (h : va_D A (a ++ w)) : va_D A a ∧ va_D A w ∧ ∀ (i j : Nat) (x y : Nat × va_E), a[i]? = some x → w[j]? = some y → x.1 ≠ y.1 := by
  have e1 : ∀ (k : Nat) (q : Nat × va_E), a[k]? = some q → (a ++ w)[k]? = some q := fun k q hq => by rw [List.getElem?_append_left (List.getElem?_eq_some_iff.mp hq).1]; exact hq
  have e2 : ∀ (k : Nat) (q : Nat × va_E), w[k]? = some q → (a ++ w)[a.length + k]? = some q := fun k q hq => by rw [List.getElem?_append_right (Nat.le_add_right _ _), Nat.add_sub_cancel_left]; exact hq
  refine ⟨⟨fun i j p q hp hq e => h.1 i j p q (e1 i p hp) (e1 j q hq) e, fun k q hq => h.2 k q (e1 k q hq)⟩, ⟨fun i j p q hp hq e => ?_, fun k q hq => h.2 _ q (e2 k q hq)⟩, fun i j x y hx hy e => ?_⟩
  · have := h.1 _ _ p q (e2 i p hp) (e2 j q hq) e
    omega
  · have := h.1 _ _ x y (e1 i x hx) (e2 j y hy) e
    have h2 := (List.getElem?_eq_some_iff.mp hx).1
    omega
set_option maxRecDepth 100000 in
set_option maxHeartbeats 4000000 in
theorem whole_start {p : Program} {e : Env} {s : State} {m : MethodId} {below : List Frame} {meth : Method} {c : Code} (l : Launch) (hflags : l.flags = flags0) {b L : Nat} {xs : Nat → Int32} (hL : L ≤ 3072) (C0 : lw_At p s m meth c b L xs) : W p l e room_1 s m #[Value.ref b] below meth c s.heap [] 0 0 (lw_Z below #[Value.ref b] s) (entryFrame m ([Value.ref b] : List Value).toArray 9) := by
  obtain ⟨hx, hb, hr, hml, hown, hts, hX, hbl, hlocks, hgv⟩ := id C0
  have hg : ∀ c ∈ GVN, c.before #[Value.ref b] s = true := flat_of_before _ hgv
  have ht : ∀ w ∈ tables_1, w.before #[Value.ref b] s = true := fun w hw => hts w (List.mem_append_right _ hw)
  have hU : ∀ w ∈ UW, w.before #[Value.ref b] s = true := fun w hw => hts w (List.mem_filter.mp hw).1
  have hl0 : l.stackTraces = false := by
    unfold Launch.stackTraces
    rw [hflags]
    decide +kernel
  obtain ⟨D, cy, hK⟩ := k_types ht hU
  have gx : GX s s := ⟨State.WarmedH.refl s, Nat.le_refl _, fun _ _ => rfl, fun w hw => (va_tabs (A := #[Value.ref b]) (A' := #[]) (u := s) (U := s) (nw_tab hw) rfl (ht w (List.mem_filter.mp hw).1) : w.before #[] s = true)⟩
  have hG : GxOk (GX s) s.heap.size := gx_ok ⟨va_AO.of (ht _ (tb1 (List.mem_of_getElem? (i := 48) rfl))), va_AO.of (ht _ (tb1 (List.mem_of_getElem? (i := 165) rfl))), va_AO.of (ht _ (tb1 (List.mem_of_getElem? (i := 219) rfl)))⟩
  obtain ⟨Ks, V, hKs, hStr⟩ := str_of hg ht
  obtain ⟨E, t0, t1, hEn⟩ := en_of hg ht hKs
  have hl := lv_entry ([.ref b]) (n := 9) (Nat.le_of_ble_eq_true rfl)
  rw [lg_entry_eq]
  generalize (lg_sl ([.ref b]) ++ List.replicate (9 - (lg_sl ([.ref b])).length) Slot.unset).toArray = ls at hl ⊢
  have hl : lv_has ls 9 [(0, .ref b)] := hl
  have hP0 : va_P D CL [] s.heap := fun k q h => by simp at h
  have hD0 : va_D (A0 s) [] := ⟨fun i j p q h => by simp at h, fun k q h => by simp at h⟩
  refine law_newO (ci := 7) (fs := [.null, .null, .null, .null, .null, .null, .null, .null, .int 0, .int 0, .int 0]) (N := 11) (nL' := 1) (F' := 4) (Lc' := 85) (C' := 478) (S' := 5864) (B1 := BX cy) hx hb hml hown hU hK gx hG rfl in_X9 tyX9 tyX9_ok kd_X9 nxw0 nxw1 nxw2 nxwy rfl rfl nxw3 nxw4 nxw5 (fun q => ct_X9 l hG) ⟨Nat.le_of_ble_eq_true rfl, Nat.le_of_ble_eq_true rfl⟩ 479 5875 rfl rfl (by decide) (by decide) (by decide) dL_law_0 dL_law_3 dL_law_4 hP0 hD0 va_S.rf hl (fun qx w1 H1 locs1 hB1 hP1 hD1 hS1 => ?_)
  obtain ⟨ax, rfl, rfl⟩ := hB1
  refine lv_astore_n (lv' := [(1, .ref (ax 0)), (0, .ref b)]) hx hb dL_law_7 rfl hl (Nat.le_of_ble_eq_true rfl) rfl (fun ls hl => ?_)
  refine law_newO (ci := 8) (fs := [.int 0, .null, .null, .int 0, .null, .int 0, .null, .null, .int 0, .int 0, .int 0, .int 0, .null, .int 0, .null, .null, .null, .null, .null, .int 0, .int 0, .int 0]) (N := 22) (nL' := 1) (F' := 1) (Lc' := 12) (C' := 11) (S' := 5713) (B1 := BM cy) hx hb hml hown hU hK gx hG rfl in_X10 tyX10 tyX10_ok kd_X10 nmw0 nmw1 nmw2 nmwy rfl rfl nmw3 nmw4 nmw5 (fun q => ct_X10 l hG) ⟨(Nat.le_of_ble_eq_true rfl), (Nat.le_of_ble_eq_true rfl)⟩ 491 11610 rfl rfl (by decide) (by decide) (by decide) dL_law_8 dL_law_11 dL_law_12 hP1 hD1 hS1 hl (fun qm w2 H2 locs2 hB2 hP2 hD2 hS2 => ?_)
  obtain ⟨am, rfl, rfl⟩ := hB2
  refine lv_astore_n (lv' := [(2, .ref (am 0)), (1, .ref (ax 0)), (0, .ref b)]) hx hb dL_law_15 rfl hl (Nat.le_of_ble_eq_true rfl) rfl (fun ls hl => ?_)
  refine lv_iconst (v := 1) hx hb dL_law_16 (by decide) ?_
  refine va_newa (atype := .long) (ty := .long) (N' := 1) (a0 := (1, .inr (.inl (fun _ => 0)))) hx hb (ht _ (tb8 (List.mem_of_getElem? (i := 138) rfl))) rfl hK hP2 hD2 hS2 (fun q h => h) (fun cA => rfl) (by decide) (by decide) (by decide) (by decide) (by decide) dL_law_17 (fun out cA H3 hK3 hP3 hD3 hS3 => ?_)
  have e5 : cA = cy 5 := by
    have h1 : s.vm.findClass ("[" ++ FieldType.long.toString) = some cA := (hK3.2 7 (cA, .long) rfl).2
    have h2 : s.vm.findClass ("[" ++ FieldType.long.toString) = some (cy 5) := (hK.2 5 (cy 5, .long) rfl).2
    exact Option.some.inj (h1.symm.trans h2)
  subst e5
  refine lv_astore_n (lv' := [(3, .ref out), (2, .ref (am 0)), (1, .ref (ax 0)), (0, .ref b)]) hx hb dL_law_19 rfl hl (Nat.le_of_ble_eq_true rfl) rfl (fun ls hl => ?_)
  refine lv_iconst (v := 1) hx hb dL_law_20 (by decide) ?_
  refine va_newa (atype := .double) (ty := .double) (N' := 1) (a0 := (1, .inr (.inr (.inr (.inl (fun _ => 0)))))) hx hb (ht _ (tb8 (List.mem_of_getElem? (i := 139) rfl))) rfl hK hP3 hD3 hS3 (fun q h => h) (fun cA => rfl) (by decide) (by decide) (by decide) (by decide) (by decide) dL_law_21 (fun outD cA H4 hK4 hP4 hD4 hS4 => ?_)
  have e6 : cA = cy 6 := by
    have h1 : s.vm.findClass ("[" ++ FieldType.double.toString) = some cA := (hK4.2 7 (cA, .double) rfl).2
    have h2 : s.vm.findClass ("[" ++ FieldType.double.toString) = some (cy 6) := (hK.2 6 (cy 6, .double) rfl).2
    exact Option.some.inj (h1.symm.trans h2)
  subst e6
  refine lv_astore (lv' := [(4, .ref outD), (3, .ref out), (2, .ref (am 0)), (1, .ref (ax 0)), (0, .ref b)]) hx hb dL_law_23 hl (Nat.le_of_ble_eq_true rfl) rfl (fun ls hl => ?_)
  refine lv_iconst (v := nI 0) hx hb dL_law_25 (by decide) ?_
  refine lv_istore (lv' := L0 ax am b out outD 0) hx hb dL_law_26 hl (Nat.le_of_ble_eq_true rfl) rfl (fun ls hl => ?_)
  obtain ⟨p3, pD⟩ := p_split hP4
  obtain ⟨p2, pO⟩ := p_split p3
  obtain ⟨p1, pM⟩ := p_split p2
  obtain ⟨d3, dD, xD⟩ := d_split hD4
  obtain ⟨d2, dO, xO⟩ := d_split d3
  obtain ⟨d1, dM, xM⟩ := d_split d2
  have gA : ∀ i, i < 479 → (([] ++ wl 479 (gX cy ax)) ++ wl 12 (gM cy am))[i]? = some (gX cy ax i) := fun i hi => by
    rw [List.getElem?_append_left (by rw [List.nil_append, wl_len]; exact hi)]
    exact wl_get hi
  have gB : ∀ j, j < 12 → (([] ++ wl 479 (gX cy ax)) ++ wl 12 (gM cy am))[479 + j]? = some (gM cy am j) := fun j hj => by
    rw [List.getElem?_append_right (by rw [List.nil_append, wl_len]; omega), List.nil_append, wl_len, Nat.add_sub_cancel_left]
    exact wl_get hj
  have lnA : (([] ++ wl 479 (gX cy ax)) ++ wl 12 (gM cy am)).length = 491 := by rw [List.length_append, List.nil_append, wl_len, wl_len]
  have AP : APt ax am out outD s.heap.size := by
    refine ⟨fun i hi j hj => xM i j _ _ (wl_get hi) (wl_get hj), fun i hi => ⟨xO i 0 _ _ (gA i hi) rfl, xD i 0 _ _ (by rw [List.getElem?_append_left (by rw [lnA]; omega)]; exact gA i hi) rfl⟩, fun j hj => ⟨xO (479 + j) 0 _ _ (gB j hj) rfl, xD (479 + j) 0 _ _ (by rw [List.getElem?_append_left (by rw [lnA]; omega)]; exact gB j hj) rfl⟩, xD 491 0 (out, _) _ (by rw [List.getElem?_append_right (by rw [lnA]; exact Nat.le_refl _), lnA]; rfl) rfl, fun i hi => d1.2 i _ (wl_get hi), fun j hj => dM.2 j _ (wl_get hj), dO.2 0 _ rfl, dD.2 0 _ rfl⟩
  have K : KT p s m b L xs c D cy E ax am out outD := ⟨hx, hb, hml, hown, hU, hK, gx, hX, hbl, WX_O d1 (fun q h => h), WM_O dM (fun q h => h), AP⟩
  have hsx : ∀ i, i < wN (WX D cy E ax s) → s.heap.size ≤ wA (WX D cy E ax s) i := AP.2.2.2.2.1
  have hsm : ∀ i, i < wN (WM D cy am s) → s.heap.size ≤ wA (WM D cy am s) i := AP.2.2.2.2.2.1
  have Y : HY l D cy E ax am s Ks V t0 t1 := ⟨hl0, thr_of hg ht rfl hsx, ncx_of hg rfl, hStr _ rfl hsx, hEn _ rfl hsx, hStr _ rfl hsm⟩
  refine law_loop K Y hL (fun hi N hc hs I hH hS hl => cs_share K Y hi hL N hc hs I hH hS hl) (fun hi N hc hs I hH hS hl => cs_meanWait K Y hi hL N hc hs I hH hS hl) (fun H locs ls cells slots hc hs hS => ?_) 512 0 493 11612 (by omega) (by omega) (by omega) (by omega) H4 _ ls MX0 MM0 (fun _ => 0) (fun _ => 0) inv0 ⟨WX_P p1, WM_P pM, pO 0 _ rfl, pD 0 _ rfl⟩ hS4 hl
  refine lv_iconst (v := 1) hx hb dL_law_2995 (by decide) ?_
  refine va_forget (fun q hq => hS.2.2 q hq) ?_
  refine W.widen (k := 603072) (n := 7211114) (by omega) (by omega) ?_
  exact lw_ret (d0 := s.drawn) (Drawn.sameBut.refl s.drawn lw_cs) hx hb hr hlocks dL_law_2996

