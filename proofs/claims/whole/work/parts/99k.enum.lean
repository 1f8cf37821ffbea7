/-! the words of commands at the start -/
def eT (k : Nat) : Term := .static "SignalRoad$Word" ((["GREEN", "OFFSET", "PRESS", "RUN", "CHANGE", "ROAD"] : List String).getD k "") "LSignalRoad$Word;"
abbrev eA : Term := .static "SignalRoad$Word" "ALL" "[LSignalRoad$Word;"
abbrev eM : Term := .static "SignalRoad$1" "$SwitchMap$SignalRoad$Word" "[I"
theorem gq6 {P : Nat → Cond} {q : List Nat} (h : ((List.range 6).all fun k => decide (GVN[q.getD k 0]? = some (P k))) = true) : ∀ k, k < 6 → P k ∈ GVN := fun k hk => gq (of_decide_eq_true (List.all_eq_true.mp h k (List.mem_range.mpr hk)))
theorem en_ex : ∀ k, k < 6 → Cond.exactly (eT k) "SignalRoad$Word" ∈ GVN := gq6 (q := [31, 35, 40, 46, 53, 61]) (by decide +kernel)
theorem en_or : ∀ k, k < 6 → Cond.eq (.field (eT k) "java/lang/Enum" "ordinal" "I") (.int (nI k)) ∈ GVN := gq6 (q := [32, 36, 41, 47, 54, 62]) (by decide +kernel)
theorem en_le : ∀ k, k < 6 → Cond.eq (.field (eT k) "SignalRoad$Word" "letters" "Ljava/lang/String;") (sT (29 + k)) ∈ GVN := gq6 (q := [33, 37, 42, 48, 55, 63]) (by decide +kernel)
theorem en_nu : ∀ k, k < 6 → Cond.eq (.field (eT k) "SignalRoad$Word" "numbers" "I") (.int (nw k)) ∈ GVN := gq6 (q := [34, 38, 43, 49, 56, 64]) (by decide +kernel)
theorem en_el : ∀ k, k < 6 → Cond.eq (.elem eA (.int (Int32.ofNat k))) (eT k) ∈ GVN := gq6 (q := [11, 12, 13, 14, 15, 16]) (by decide +kernel)
theorem en_sw : ∀ k, k < 6 → Cond.eq (.elem eM (.int (Int32.ofNat k))) (.int (smw k)) ∈ GVN := gq6 (q := [25, 26, 27, 28, 29, 30]) (by decide +kernel)
section ENS
variable {s : State} {args : Array Value}
theorem en_of (hg : ∀ c ∈ GVN, c.before args s = true) (ht : ∀ w ∈ tables_1, w.before args s = true) {K : Nat → Nat} (hK : ∀ i, i < 35 → (sT i).eval args s none [] s = some (.ref (K i))) : ∃ (E : Nat → Nat) (t0 t1 : Nat), ∀ Ω : Wd, wX Ω = GX s → (∀ i, i < wN Ω → s.heap.size ≤ wA Ω i) → EnOk Ω E K t0 t1 := by
  have h0 : ∀ k : Nat, ∃ a : Nat, k < 6 → (eT k).eval args s none [] s = some (.ref a) ∧ va_O "SignalRoad$Word" a (A0 s) s s.heap := by
    intro k
    by_cases hk : k < 6
    · obtain ⟨a, c, cA, kA, q1, q2, q3, q4, q5, q6, -⟩ := Cond.exactly_spec (hg _ (en_ex k hk))
      exact ⟨a, fun _ => ⟨q1, ⟨cA, q3, q5, by rw [q6]; exact q2, a0_not s a (Array.getElem?_eq_some_iff.mp q3).1⟩⟩⟩
    · exact ⟨0, fun h => absurd h hk⟩
  obtain ⟨E, hE⟩ := Classical.axiomOfChoice h0
  obtain ⟨t0, e0, hT0⟩ := va_Tof (tm := eA) (ty := .object "SignalRoad$Word") (N := 6) (f := fun j => .ref (E j)) (by decide) (hg _ (gq (k := 8) (by decide +kernel))) (va_eqt (hg _ (gq (k := 9) (by decide +kernel)))) (fun j hj => va_eqv (hg _ (en_el j hj)) (hE j hj).1) (a0_not s)
  obtain ⟨t1, e1, hT1⟩ := va_Tof (tm := eM) (ty := .int) (N := 6) (f := fun j => .int (smw j)) (by decide) (hg _ (gq (k := 23) (by decide +kernel))) (va_eqt (hg _ (gq (k := 24) (by decide +kernel)))) (fun j hj => va_eqt (hg _ (en_sw j hj))) (a0_not s)
  refine ⟨E, t0, t1, fun Ω hX hs U hU => ?_⟩
  rw [hX] at hU
  refine ⟨fun k hk => ⟨up_O hU (aa_up hs hU) (hE k hk).2, up_OF hU (aa_up hs hU) (vk_OFof (hE k hk).1 (va_eqv (hg _ (en_le k hk)) (hK (29 + k) (by omega))) (a0_not s)), up_OF hU (aa_up hs hU) (vk_OFof (hE k hk).1 (va_eqt (hg _ (en_nu k hk))) (a0_not s)), up_OF hU (aa_up hs hU) (vk_OFof (hE k hk).1 (va_eqt (hg _ (en_or k hk))) (a0_not s))⟩, up_Z hU (aa_up hs hU) (va_Zof (ht _ (tb5 (List.mem_of_getElem? (i := 219) rfl))) (ht _ (tb1 (List.mem_of_getElem? (i := 28) rfl))) e0 (a0_not s)), up_T hU (aa_up hs hU) hT0, up_Z hU (aa_up hs hU) (va_Zof (ht _ (tb6 (List.mem_of_getElem? (i := 49) rfl))) (ht _ (tb1 (List.mem_of_getElem? (i := 32) rfl))) e1 (a0_not s)), up_T hU (aa_up hs hU) hT1⟩
end ENS
