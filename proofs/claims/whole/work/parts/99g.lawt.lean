/-! one round of the law's loop, behind both calls -/
abbrev L0 (ax am : Nat → Nat) (b out outD i : Nat) : List (Nat × Value) := [(5, .int (nI i)), (4, .ref outD), (3, .ref out), (2, .ref (am 0)), (1, .ref (ax 0)), (0, .ref b)]
theorem ut_thrown : uw_V RL 158 RX10 yX10_thrown (.code yX10_thrown cX10_thrown 1 (some .int)) := ⟨tbu (tb6 (List.mem_of_getElem? (i := 197) rfl)) rfl, tbu (tb6 (List.mem_of_getElem? (i := 198) rfl)) rfl, tbu (tb6 (List.mem_of_getElem? (i := 199) rfl)) rfl, tbu (tb1 (List.mem_of_getElem? (i := 10) rfl)) rfl, tbu (tb6 (List.mem_of_getElem? (i := 200) rfl)) rfl⟩
theorem vy_thrown : yOk yX10_thrown 0 := ⟨by decide +kernel, by decide +kernel, by decide +kernel⟩
section LWT
variable {p : Program} {l : Launch} {e : Env} {s : State} {m : MethodId} {below : List Frame} {meth : Method} {c : Code} {b Ls : Nat} {xs : Nat → Int32} {D : va_G} {cy : Nat → ClassId} {E ax am : Nat → Nat} {out outD : Nat} {Mx Mm Mx' Mm' : Mem} {xo xd : va_E} {H : Heap} {locs : List Loc} {cells slots pc i : Nat} {ls : Array Slot} {L : List (Nat × Value)} {st stk : List Value} {Q : State → Prop}
def Next (p : Program) (l : Launch) (e : Env) (s : State) (m : MethodId) (b : Nat) (below : List Frame) (meth : Method) (c : Code) (D : va_G) (cy : Nat → ClassId) (E ax am : Nat → Nat) (out outD : Nat) (Q : State → Prop) (cells slots i : Nat) : Prop :=
  ∀ (H : Heap) (locs : List Loc) (ls : Array Slot) (Mx Mm : Mem) (f : Nat → Int64) (g : Nat → UInt64), Inv Mx Mm → LH D cy E ax am s out outD Mx Mm (lc (cy 5) f) (dc (cy 6) g) H → va_S (A0 s) s.heap H locs → lv_has ls 9 (L0 ax am b out outD i) → W p l e room_1 s m #[Value.ref b] below meth c H locs cells slots Q (F0 m 28 ls [])
theorem law_end (K : KT p s m b Ls xs c D cy E ax am out outD) (N : Next p l e s m b below meth c D cy E ax am out outD Q cells slots (i + 6)) {f : Nat → Int64} {g : Nat → UInt64} (I : Inv Mx Mm) (hH : LH D cy E ax am s out outD Mx Mm (lc (cy 5) f) (dc (cy 6) g) H) (hS : va_S (A0 s) s.heap H locs) (hl : lv_has ls 9 (L0 ax am b out outD i)) : W p l e room_1 s m #[Value.ref b] below meth c H locs cells slots Q (F0 m 2989 ls []) := by
  refine lv_iinc (v := nI (i + 6)) (lv' := L0 ax am b out outD (i + 6)) K.1 K.2.1 dL_law_2989 hl (k := 0) rfl (nI_add i 6) (Nat.le_of_ble_eq_true rfl) rfl (fun ls' hl' => ?_)
  refine lv_goto (tgt := 28) K.1 K.2.1 dL_law_2992 (by decide) ?_
  exact N H locs ls' Mx Mm f g I hH hS hl'
theorem law_tail (K : KT p s m b Ls xs c D cy E ax am out outD) (N : Next p l e s m b below meth c D cy E ax am out outD Q cells slots (i + 6)) (hc : cells ≤ 603072) (hs : slots ≤ 7211114) {g : Nat → UInt64} {ks : List Nat} (hks : ks.length ≤ 6) {rx : Nat ⊕ Int32} {vm : Int32} (hA : Agr ks rx vm Mm) (I : Inv Mx Mm) (hE : EL (cy 5) rx xo) (hH : LH D cy E ax am s out outD Mx Mm xo (dc (cy 6) g) H) (hS : va_S (A0 s) s.heap H locs) (hl : lv_has ls 9 ((7, .int vm) :: (6, .int (Mm 0 0)) :: L0 ax am b out outD i))
    (d0 : decode code pc = .ok (.aload_n 2, 1)) (d1 : decode code (pc + 1) = .ok (.invokevirtual 158, 3)) (d2 : decode code (pc + 4) = .ok (.iload 6, 2)) (d3 : decode code (pc + 6) = .ok (.if_icmp .eq 5, 3)) (d4 : decode code (pc + 11) = .ok (.iload 6, 2)) (d5 : decode code (pc + 13) = .ok (.ifCond .ne 15, 3)) (d6 : decode code (pc + 16) = .ok (.aload_n 3, 1)) (d7 : decode code (pc + 17) = .ok (.iconst 0, 1)) (d8 : decode code (pc + 18) = .ok (.laload, 1)) (d9 : decode code (pc + 19) = .ok (.iload 7, 2)) (d10 : decode code (pc + 21) = .ok (.i2l, 1)) (d11 : decode code (pc + 22) = .ok (.lcmp, 1)) (d12 : decode code (pc + 23) = .ok (.ifCond .eq 5, 3)) {off : Int} (d13 : decode code (pc + 28) = .ok (.goto off, 3)) (hoff : ((pc + 28 : Nat) : Int) + off = ((2989 : Nat) : Int)) : W p l e room_1 s m #[Value.ref b] below meth c H locs cells slots Q (F0 m pc ls []) := by
  obtain ⟨f, rfl, hE⟩ := hE
  refine lv_aload_n K.1 K.2.1 d0 rfl (lv_at hl 5 rfl) ?_
  refine law_mcall K (v := some (.int (Mm 0 0))) (Mm' := Mm) (av := []) (st := []) (c_X10_thrown l K.2.2.2.2.2.2.2.2.2.2.1 (WM_LM D cy am s) Mm _ rfl) d1 ut_thrown rfl vy_thrown ⟨Nat.le_of_ble_eq_true rfl, Nat.le_of_ble_eq_true rfl⟩ (Nat.le_of_ble_eq_true rfl) rfl hl hS hH hc hs (fun H1 locs1 hH1 hS1 => ?_)
  refine lv_iload K.1 K.2.1 d2 (lv_at hl 1 rfl) ?_
  refine lv_icmp_eq (tgt := pc + 11) K.1 K.2.1 d3 (by omega) (fun _ => ?_) (fun h => absurd rfl h)
  have fin : W p l e room_1 s m #[Value.ref b] below meth c H1 locs1 cells slots Q (F0 m (pc + 28) ls []) := by
    refine lv_goto K.1 K.2.1 d13 hoff ?_
    exact law_end K N I hH1 hS1 (lv_sub hl [2, 3, 4, 5, 6, 7] rfl)
  refine lv_iload K.1 K.2.1 d4 (lv_at hl 1 rfl) ?_
  refine lv_if_ne (tgt := pc + 28) K.1 K.2.1 d5 (by omega) (fun _ => fin) (fun h0 => ?_)
  obtain ⟨v, hrx, hv⟩ : ∃ v, rx = .inr v ∧ vm = v := by
    cases rx with
    | inr v => exact ⟨v, rfl, hA.2⟩
    | inl e0 =>
      obtain ⟨j, hj, h1⟩ := hA
      exfalso
      have hj6 : j < ks.length := (List.getElem?_eq_some_iff.mp hj).1
      rw [h1] at h0
      rcases (show j = 0 ∨ j = 1 ∨ j = 2 ∨ j = 3 ∨ j = 4 ∨ j = 5 by omega) with rfl | rfl | rfl | rfl | rfl | rfl <;> exact absurd h0 (by decide)
  have hf := hE v hrx
  refine lv_aload_n K.1 K.2.1 d6 rfl (lv_at hl 4 rfl) ?_
  refine lv_iconst (v := 0) K.1 K.2.1 d7 (by decide) ?_
  refine va_lald K.1 K.2.1 K.2.2.2.2.2.1 (ws := [(out, lc (cy 5) f)]) (fun k q hq => ?_) 0 5 rfl rfl (inb_in (by decide)) d8 ?_
  · have hz : k < 1 := (List.getElem?_eq_some_iff.mp hq).1
    rw [show k = 0 by omega] at hq
    cases hq
    exact hH1.2.2.1
  refine lv_iload K.1 K.2.1 d9 (lv_at hl 0 rfl) ?_
  refine lv_i2l K.1 K.2.1 (v := vm.toInt64) d10 rfl ?_
  refine W.lcmp K.1 K.2.1 d11 ?_
  refine lv_if_eq (tgt := pc + 28) K.1 K.2.1 d12 (by omega) (fun _ => fin) (fun h => absurd ?_ h)
  show lg_cmp (f 0) vm.toInt64 = 0
  rw [hf, hv]
  simp [lg_cmp]
end LWT
