/-! what the start says of constants, said of every state of the run -/
section UPS
variable {s U : State} {B : Nat → Prop}
theorem up_O {E : String} {t : Nat} (hU : GX s U) (hA : ∀ q, B q → s.heap.size ≤ q) (h : va_O E t (A0 s) s s.heap) : va_O E t B U U.heap := ((h.moved hU.1.alike).kept (fun a ha _ => hU.2.2.1 a ha)).narrow hA
theorem up_OF {o n d : String} {v : Value} {t : Nat} (hU : GX s U) (hA : ∀ q, B q → s.heap.size ≤ q) (h : va_OF o n d v t (A0 s) s s.heap) : va_OF o n d v t B U U.heap := ((h.moved hU.1.alike).kept (fun a ha _ => hU.2.2.1 a ha)).narrow hA
theorem up_Z {C n d : String} {v : Value} (hU : GX s U) (hA : ∀ q, B q → s.heap.size ≤ q) (h : va_Z C n d v (A0 s) s s.heap) : va_Z C n d v B U U.heap := ((h.moved hU.1.alike).kept (fun a ha _ => hU.2.2.1 a ha)).narrow hA
theorem up_T {ty : FieldType} {t N : Nat} {f : Nat → Value} (hU : GX s U) (hA : ∀ q, B q → s.heap.size ≤ q) (h : va_T ty t N f (A0 s) s s.heap) : va_T ty t N f B U U.heap := ((h.moved hU.1.alike).kept (fun a ha _ => hU.2.2.1 a ha)).narrow hA
theorem up_Zq {C n d : String} (hU : GX s U) (hA : ∀ q, B q → s.heap.size ≤ q) (h : va_Zq C n d (A0 s) s s.heap) : va_Zq C n d B U U.heap := ((va_Zq.moved hU.1.alike h).kept (fun a ha _ => hU.2.2.1 a ha)).narrow hA
theorem up_xZ {C n d : String} (hU : GX s U) (hA : ∀ q, B q → s.heap.size ≤ q) (h : vx_Zq C n d (A0 s) s s.heap) : vx_Zq C n d B U U.heap := ((vx_Zq.moved hU.1.alike h).kept (fun a ha _ => hU.2.2.1 a ha)).narrow hA
end UPS
theorem aa_up {Ω : Wd} {s U : State} (hs : ∀ i, i < wN Ω → s.heap.size ≤ wA Ω i) (hU : GX s U) : ∀ q, AA Ω U.heap.size q → s.heap.size ≤ q := fun q h => by
  rcases h with ⟨i, hi, h⟩ | h
  · rw [← h]; exact hs i hi
  · exact Nat.le_trans hU.2.1 h
abbrev GVN : List Cond := flatC (Jvm.Cond.and given_1 narrow_1)
def sT (i : Nat) : Term := .string (SW.getD i ("", 0, "")).1 (SW.getD i ("", 0, "")).2.1
def gvL (i : Nat) : List Cond := [Cond.exactly (sT i) "java/lang/String", Cond.eq (.field (sT i) "java/lang/String" "coder" "B") (.int 0), Cond.arrayOf (.field (sT i) "java/lang/String" "value" "[B") .byte, Cond.eq (.length (.field (sT i) "java/lang/String" "value" "[B")) (.int (Int32.ofNat (sl i)))] ++ (List.range (sl i)).map fun j => Cond.eq (.elem (.field (sT i) "java/lang/String" "value" "[B") (.int (Int32.ofNat j))) (.int (sb i j))
theorem gvp {i k n : Nat} (h : (GVN.drop k).take n = gvL i) : ∀ w ∈ gvL i, w ∈ GVN := fun w hw => List.mem_of_mem_drop (List.mem_of_mem_take (h ▸ hw))
theorem gvp_0 : (GVN.drop 219).take 34 = gvL 0 := by decide +kernel
theorem gvp_1 : (GVN.drop 253).take 46 = gvL 1 := by decide +kernel
theorem gvp_2 : (GVN.drop 299).take 45 = gvL 2 := by decide +kernel
theorem gvp_3 : (GVN.drop 344).take 43 = gvL 3 := by decide +kernel
theorem gvp_4 : (GVN.drop 387).take 33 = gvL 4 := by decide +kernel
theorem gvp_5 : (GVN.drop 420).take 29 = gvL 5 := by decide +kernel
theorem gvp_6 : (GVN.drop 449).take 22 = gvL 6 := by decide +kernel
theorem gvp_7 : (GVN.drop 471).take 24 = gvL 7 := by decide +kernel
theorem gvp_8 : (GVN.drop 495).take 25 = gvL 8 := by decide +kernel
theorem gvp_9 : (GVN.drop 520).take 47 = gvL 9 := by decide +kernel
theorem gvp_10 : (GVN.drop 567).take 13 = gvL 10 := by decide +kernel
theorem gvp_11 : (GVN.drop 580).take 8 = gvL 11 := by decide +kernel
theorem gvp_12 : (GVN.drop 588).take 11 = gvL 12 := by decide +kernel
theorem gvp_13 : (GVN.drop 599).take 13 = gvL 13 := by decide +kernel
theorem gvp_14 : (GVN.drop 612).take 6 = gvL 14 := by decide +kernel
theorem gvp_15 : (GVN.drop 618).take 11 = gvL 15 := by decide +kernel
theorem gvp_16 : (GVN.drop 629).take 6 = gvL 16 := by decide +kernel
theorem gvp_17 : (GVN.drop 635).take 5 = gvL 17 := by decide +kernel
theorem gvp_18 : (GVN.drop 640).take 7 = gvL 18 := by decide +kernel
theorem gvp_19 : (GVN.drop 647).take 39 = gvL 19 := by decide +kernel
theorem gvp_20 : (GVN.drop 686).take 13 = gvL 20 := by decide +kernel
theorem gvp_21 : (GVN.drop 700).take 8 = gvL 21 := by decide +kernel
theorem gvp_22 : (GVN.drop 709).take 11 = gvL 22 := by decide +kernel
theorem gvp_23 : (GVN.drop 721).take 13 = gvL 23 := by decide +kernel
theorem gvp_24 : (GVN.drop 735).take 6 = gvL 24 := by decide +kernel
theorem gvp_25 : (GVN.drop 742).take 6 = gvL 25 := by decide +kernel
theorem gvp_26 : (GVN.drop 749).take 9 = gvL 26 := by decide +kernel
theorem gvp_27 : (GVN.drop 758).take 5 = gvL 27 := by decide +kernel
theorem gvp_28 : (GVN.drop 764).take 7 = gvL 28 := by decide +kernel
theorem gvp_29 : (GVN.drop 772).take 9 = gvL 29 := by decide +kernel
theorem gvp_30 : (GVN.drop 781).take 10 = gvL 30 := by decide +kernel
theorem gvp_31 : (GVN.drop 791).take 9 = gvL 31 := by decide +kernel
theorem gvp_32 : (GVN.drop 800).take 7 = gvL 32 := by decide +kernel
theorem gvp_33 : (GVN.drop 807).take 10 = gvL 33 := by decide +kernel
theorem gvp_34 : (GVN.drop 817).take 8 = gvL 34 := by decide +kernel
theorem gv_in : ∀ i, i < 35 → ∀ w ∈ gvL i, w ∈ GVN := by
  intro i hi
  match i, hi with
  | 0, _ => exact gvp gvp_0
  | 1, _ => exact gvp gvp_1
  | 2, _ => exact gvp gvp_2
  | 3, _ => exact gvp gvp_3
  | 4, _ => exact gvp gvp_4
  | 5, _ => exact gvp gvp_5
  | 6, _ => exact gvp gvp_6
  | 7, _ => exact gvp gvp_7
  | 8, _ => exact gvp gvp_8
  | 9, _ => exact gvp gvp_9
  | 10, _ => exact gvp gvp_10
  | 11, _ => exact gvp gvp_11
  | 12, _ => exact gvp gvp_12
  | 13, _ => exact gvp gvp_13
  | 14, _ => exact gvp gvp_14
  | 15, _ => exact gvp gvp_15
  | 16, _ => exact gvp gvp_16
  | 17, _ => exact gvp gvp_17
  | 18, _ => exact gvp gvp_18
  | 19, _ => exact gvp gvp_19
  | 20, _ => exact gvp gvp_20
  | 21, _ => exact gvp gvp_21
  | 22, _ => exact gvp gvp_22
  | 23, _ => exact gvp gvp_23
  | 24, _ => exact gvp gvp_24
  | 25, _ => exact gvp gvp_25
  | 26, _ => exact gvp gvp_26
  | 27, _ => exact gvp gvp_27
  | 28, _ => exact gvp gvp_28
  | 29, _ => exact gvp gvp_29
  | 30, _ => exact gvp gvp_30
  | 31, _ => exact gvp gvp_31
  | 32, _ => exact gvp gvp_32
  | 33, _ => exact gvp gvp_33
  | 34, _ => exact gvp gvp_34
  | n + 35, h => exact absurd h (by omega)
theorem gv_ex (i : Nat) (hi : i < 35) : Cond.exactly (sT i) "java/lang/String" ∈ GVN := gv_in i hi _ (by simp [gvL])
theorem gv_co (i : Nat) (hi : i < 35) : Cond.eq (.field (sT i) "java/lang/String" "coder" "B") (.int 0) ∈ GVN := gv_in i hi _ (by simp [gvL])
theorem gv_ar (i : Nat) (hi : i < 35) : Cond.arrayOf (.field (sT i) "java/lang/String" "value" "[B") .byte ∈ GVN := gv_in i hi _ (by simp [gvL])
theorem gv_le (i : Nat) (hi : i < 35) : Cond.eq (.length (.field (sT i) "java/lang/String" "value" "[B")) (.int (Int32.ofNat (sl i))) ∈ GVN := gv_in i hi _ (by simp [gvL])
theorem gv_el (i : Nat) (hi : i < 35) (j : Nat) (hj : j < sl i) : Cond.eq (.elem (.field (sT i) "java/lang/String" "value" "[B") (.int (Int32.ofNat j))) (.int (sb i j)) ∈ GVN := gv_in i hi _ (List.mem_append_right _ (List.mem_map.mpr ⟨j, List.mem_range.mpr hj, rfl⟩))
theorem gv_sl : ∀ i, i < 35 → sl i < 2 ^ 31 := by decide +kernel
theorem gv_sr : ∀ i, i < 35 → Cond.stringRef (SW.getD i ("", 0, "")).1 (SW.getD i ("", 0, "")).2.1 (SW.getD i ("", 0, "")).2.2 ∈ tables_1 := by
  intro i hi
  match i, hi with
  | 0, _ => exact tb2 (List.mem_of_getElem? (i := 141) rfl)
  | 1, _ => exact tb2 (List.mem_of_getElem? (i := 177) rfl)
  | 2, _ => exact tb2 (List.mem_of_getElem? (i := 193) rfl)
  | 3, _ => exact tb2 (List.mem_of_getElem? (i := 209) rfl)
  | 4, _ => exact tb2 (List.mem_of_getElem? (i := 225) rfl)
  | 5, _ => exact tb3 (List.mem_of_getElem? (i := 88) rfl)
  | 6, _ => exact tb3 (List.mem_of_getElem? (i := 174) rfl)
  | 7, _ => exact tb5 (List.mem_of_getElem? (i := 169) rfl)
  | 8, _ => exact tb5 (List.mem_of_getElem? (i := 182) rfl)
  | 9, _ => exact tb6 (List.mem_of_getElem? (i := 56) rfl)
  | 10, _ => exact tb6 (List.mem_of_getElem? (i := 72) rfl)
  | 11, _ => exact tb6 (List.mem_of_getElem? (i := 87) rfl)
  | 12, _ => exact tb6 (List.mem_of_getElem? (i := 88) rfl)
  | 13, _ => exact tb6 (List.mem_of_getElem? (i := 89) rfl)
  | 14, _ => exact tb6 (List.mem_of_getElem? (i := 90) rfl)
  | 15, _ => exact tb6 (List.mem_of_getElem? (i := 95) rfl)
  | 16, _ => exact tb6 (List.mem_of_getElem? (i := 96) rfl)
  | 17, _ => exact tb6 (List.mem_of_getElem? (i := 97) rfl)
  | 18, _ => exact tb6 (List.mem_of_getElem? (i := 98) rfl)
  | 19, _ => exact tb8 (List.mem_of_getElem? (i := 74) rfl)
  | 20, _ => exact tb8 (List.mem_of_getElem? (i := 100) rfl)
  | 21, _ => exact tb8 (List.mem_of_getElem? (i := 110) rfl)
  | 22, _ => exact tb8 (List.mem_of_getElem? (i := 111) rfl)
  | 23, _ => exact tb8 (List.mem_of_getElem? (i := 112) rfl)
  | 24, _ => exact tb8 (List.mem_of_getElem? (i := 113) rfl)
  | 25, _ => exact tb8 (List.mem_of_getElem? (i := 118) rfl)
  | 26, _ => exact tb8 (List.mem_of_getElem? (i := 119) rfl)
  | 27, _ => exact tb8 (List.mem_of_getElem? (i := 120) rfl)
  | 28, _ => exact tb8 (List.mem_of_getElem? (i := 121) rfl)
  | 29, _ => exact tb8 (List.mem_of_getElem? (i := 172) rfl)
  | 30, _ => exact tb8 (List.mem_of_getElem? (i := 173) rfl)
  | 31, _ => exact tb8 (List.mem_of_getElem? (i := 174) rfl)
  | 32, _ => exact tb8 (List.mem_of_getElem? (i := 175) rfl)
  | 33, _ => exact tb8 (List.mem_of_getElem? (i := 176) rfl)
  | 34, _ => exact tb8 (List.mem_of_getElem? (i := 177) rfl)
  | n + 35, h => exact absurd h (by omega)
theorem sw_len : SW.length = 35 := by decide +kernel
section SOK
variable {s : State} {args : Array Value}
theorem a0_not (s : State) : ∀ a : Nat, a < s.heap.size → ¬ A0 s a := fun a ha h => by
  have : s.heap.size ≤ a := h
  omega
theorem str_at (hg : ∀ c ∈ GVN, c.before args s = true) (ht : ∀ w ∈ tables_1, w.before args s = true) : ∃ K V : Nat → Nat, ∀ i, i < 35 → vk_R (SW.getD i ("", 0, "")).1 (SW.getD i ("", 0, "")).2.1 (SW.getD i ("", 0, "")).2.2 (K i) s ∧ va_O "java/lang/String" (K i) (A0 s) s s.heap ∧ va_OF "java/lang/String" "coder" "B" (.int 0) (K i) (A0 s) s s.heap ∧ va_OF "java/lang/String" "value" "[B" (.ref (V i)) (K i) (A0 s) s s.heap ∧ va_T .byte (V i) (sl i) (fun j => .int (sb i j)) (A0 s) s s.heap ∧ (sT i).eval args s none [] s = some (.ref (K i)) := by
  have h0 : ∀ i : Nat, ∃ q : Nat × Nat, i < 35 → vk_R (SW.getD i ("", 0, "")).1 (SW.getD i ("", 0, "")).2.1 (SW.getD i ("", 0, "")).2.2 q.1 s ∧ va_O "java/lang/String" q.1 (A0 s) s s.heap ∧ va_OF "java/lang/String" "coder" "B" (.int 0) q.1 (A0 s) s s.heap ∧ va_OF "java/lang/String" "value" "[B" (.ref q.2) q.1 (A0 s) s s.heap ∧ va_T .byte q.2 (sl i) (fun j => .int (sb i j)) (A0 s) s s.heap ∧ (sT i).eval args s none [] s = some (.ref q.1) := by
    intro i
    by_cases hi : i < 35
    · obtain ⟨a, c, cA, kA, q1, q2, q3, q4, q5, q6, -⟩ := Cond.exactly_spec (hg _ (gv_ex i hi))
      obtain ⟨t, et, hT⟩ := va_Tof (f := fun j => .int (sb i j)) (gv_sl i hi) (hg _ (gv_ar i hi)) (va_eqt (hg _ (gv_le i hi))) (fun j hj => va_eqt (hg _ (gv_el i hi j hj))) (a0_not s)
      refine ⟨(a, t), fun _ => ⟨vk_R.of (A := args) (ht _ (gv_sr i hi)) q1, ⟨cA, q3, q5, by rw [q6]; exact q2, a0_not s a (Array.getElem?_eq_some_iff.mp q3).1⟩, vk_OFof q1 (va_eqt (hg _ (gv_co i hi))) (a0_not s), vk_OFof q1 et (a0_not s), hT, q1⟩⟩
    · exact ⟨(0, 0), fun h => absurd h hi⟩
  obtain ⟨ad, had⟩ := Classical.axiomOfChoice h0
  exact ⟨fun i => (ad i).1, fun i => (ad i).2, had⟩
end SOK
theorem gq {k : Nat} {w : Cond} (h : GVN[k]? = some w) : w ∈ GVN := List.mem_of_getElem? h
theorem nc_0_1 : Cond.not (.castable (exN 0) (exN 1)) ∈ GVN := gq (k := 79) (by decide +kernel)
theorem nc_0_2 : Cond.not (.castable (exN 0) (exN 2)) ∈ GVN := gq (k := 95) (by decide +kernel)
theorem nc_0_3 : Cond.not (.castable (exN 0) (exN 3)) ∈ GVN := gq (k := 126) (by decide +kernel)
theorem nc_0_4 : Cond.not (.castable (exN 0) (exN 4)) ∈ GVN := gq (k := 142) (by decide +kernel)
theorem nc_0_5 : Cond.not (.castable (exN 0) (exN 5)) ∈ GVN := gq (k := 158) (by decide +kernel)
theorem nc_1_0 : Cond.not (.castable (exN 1) (exN 0)) ∈ GVN := gq (k := 111) (by decide +kernel)
theorem nc_1_2 : Cond.not (.castable (exN 1) (exN 2)) ∈ GVN := gq (k := 96) (by decide +kernel)
theorem nc_1_3 : Cond.not (.castable (exN 1) (exN 3)) ∈ GVN := gq (k := 127) (by decide +kernel)
theorem nc_1_4 : Cond.not (.castable (exN 1) (exN 4)) ∈ GVN := gq (k := 143) (by decide +kernel)
theorem nc_1_5 : Cond.not (.castable (exN 1) (exN 5)) ∈ GVN := gq (k := 159) (by decide +kernel)
theorem nc_2_0 : Cond.not (.castable (exN 2) (exN 0)) ∈ GVN := gq (k := 112) (by decide +kernel)
theorem nc_2_1 : Cond.not (.castable (exN 2) (exN 1)) ∈ GVN := gq (k := 80) (by decide +kernel)
theorem nc_2_3 : Cond.not (.castable (exN 2) (exN 3)) ∈ GVN := gq (k := 128) (by decide +kernel)
theorem nc_2_4 : Cond.not (.castable (exN 2) (exN 4)) ∈ GVN := gq (k := 144) (by decide +kernel)
theorem nc_2_5 : Cond.not (.castable (exN 2) (exN 5)) ∈ GVN := gq (k := 160) (by decide +kernel)
theorem nc_3_0 : Cond.not (.castable (exN 3) (exN 0)) ∈ GVN := gq (k := 113) (by decide +kernel)
theorem nc_3_1 : Cond.not (.castable (exN 3) (exN 1)) ∈ GVN := gq (k := 81) (by decide +kernel)
theorem nc_3_2 : Cond.not (.castable (exN 3) (exN 2)) ∈ GVN := gq (k := 97) (by decide +kernel)
theorem nc_3_4 : Cond.not (.castable (exN 3) (exN 4)) ∈ GVN := gq (k := 145) (by decide +kernel)
theorem nc_3_5 : Cond.not (.castable (exN 3) (exN 5)) ∈ GVN := gq (k := 161) (by decide +kernel)
theorem nc_4_0 : Cond.not (.castable (exN 4) (exN 0)) ∈ GVN := gq (k := 114) (by decide +kernel)
theorem nc_4_1 : Cond.not (.castable (exN 4) (exN 1)) ∈ GVN := gq (k := 82) (by decide +kernel)
theorem nc_4_2 : Cond.not (.castable (exN 4) (exN 2)) ∈ GVN := gq (k := 98) (by decide +kernel)
theorem nc_4_3 : Cond.not (.castable (exN 4) (exN 3)) ∈ GVN := gq (k := 129) (by decide +kernel)
theorem nc_4_5 : Cond.not (.castable (exN 4) (exN 5)) ∈ GVN := gq (k := 162) (by decide +kernel)
theorem nc_5_0 : Cond.not (.castable (exN 5) (exN 0)) ∈ GVN := gq (k := 115) (by decide +kernel)
theorem nc_5_1 : Cond.not (.castable (exN 5) (exN 1)) ∈ GVN := gq (k := 84) (by decide +kernel)
theorem nc_5_2 : Cond.not (.castable (exN 5) (exN 2)) ∈ GVN := gq (k := 100) (by decide +kernel)
theorem nc_5_3 : Cond.not (.castable (exN 5) (exN 3)) ∈ GVN := gq (k := 131) (by decide +kernel)
theorem nc_5_4 : Cond.not (.castable (exN 5) (exN 4)) ∈ GVN := gq (k := 147) (by decide +kernel)
theorem nc_at : ∀ i j : Nat, i < 6 → j < 6 → i ≠ j → Cond.not (.castable (exN i) (exN j)) ∈ GVN := by
  intro i j hi hj h
  match i, hi with
  | 0, _ =>
    match j, hj with
    | 0, _ => exact absurd rfl h
    | 1, _ => exact nc_0_1
    | 2, _ => exact nc_0_2
    | 3, _ => exact nc_0_3
    | 4, _ => exact nc_0_4
    | 5, _ => exact nc_0_5
    | n + 6, h => exact absurd h (by omega)
  | 1, _ =>
    match j, hj with
    | 0, _ => exact nc_1_0
    | 1, _ => exact absurd rfl h
    | 2, _ => exact nc_1_2
    | 3, _ => exact nc_1_3
    | 4, _ => exact nc_1_4
    | 5, _ => exact nc_1_5
    | n + 6, h => exact absurd h (by omega)
  | 2, _ =>
    match j, hj with
    | 0, _ => exact nc_2_0
    | 1, _ => exact nc_2_1
    | 2, _ => exact absurd rfl h
    | 3, _ => exact nc_2_3
    | 4, _ => exact nc_2_4
    | 5, _ => exact nc_2_5
    | n + 6, h => exact absurd h (by omega)
  | 3, _ =>
    match j, hj with
    | 0, _ => exact nc_3_0
    | 1, _ => exact nc_3_1
    | 2, _ => exact nc_3_2
    | 3, _ => exact absurd rfl h
    | 4, _ => exact nc_3_4
    | 5, _ => exact nc_3_5
    | n + 6, h => exact absurd h (by omega)
  | 4, _ =>
    match j, hj with
    | 0, _ => exact nc_4_0
    | 1, _ => exact nc_4_1
    | 2, _ => exact nc_4_2
    | 3, _ => exact nc_4_3
    | 4, _ => exact absurd rfl h
    | 5, _ => exact nc_4_5
    | n + 6, h => exact absurd h (by omega)
  | 5, _ =>
    match j, hj with
    | 0, _ => exact nc_5_0
    | 1, _ => exact nc_5_1
    | 2, _ => exact nc_5_2
    | 3, _ => exact nc_5_3
    | 4, _ => exact nc_5_4
    | 5, _ => exact absurd rfl h
    | n + 6, h => exact absurd h (by omega)
  | n + 6, h => exact absurd h (by omega)
section HYS
variable {s : State} {args : Array Value}
theorem ncx_of (hg : ∀ c ∈ GVN, c.before args s = true) {Ω : Wd} (hX : wX Ω = GX s) : NcX Ω := fun U hU i j hi hj h => by
  rw [hX] at hU
  exact va_Nc.moved hU.1.alike (va_Nc.of (hg _ (nc_at i j hi hj h)))
theorem thr_of (hg : ∀ c ∈ GVN, c.before args s = true) (ht : ∀ w ∈ tables_1, w.before args s = true) {Ω : Wd} (hX : wX Ω = GX s) (hs : ∀ i, i < wN Ω → s.heap.size ≤ wA Ω i) : ThrOk Ω := fun U hU => by
  rw [hX] at hU
  obtain ⟨K, V, hK⟩ := str_at hg ht
  refine ⟨fun q hq => ?_, up_xZ hU (aa_up hs hU) (vx_Zqof (ht _ (tb2 (List.mem_of_getElem? (i := 123) rfl))) (ht _ (tb1 (List.mem_of_getElem? (i := 11) rfl))) (hg _ (gq (k := 4) (by decide +kernel))) (a0_not s)), up_xZ hU (aa_up hs hU) (vx_Zqof (ht _ (tb2 (List.mem_of_getElem? (i := 125) rfl))) (ht _ (tb1 (List.mem_of_getElem? (i := 11) rfl))) (hg _ (gq (k := 5) (by decide +kernel))) (a0_not s))⟩
  obtain ⟨i, hi⟩ := List.getElem?_of_mem hq
  have h35 : i < 35 := by
    have := (List.getElem?_eq_some_iff.mp hi).1
    rw [sw_len] at this
    exact this
  have e : SW.getD i ("", 0, "") = q := by rw [List.getD_eq_getElem?_getD, hi]; rfl
  refine ⟨K i, ?_⟩
  have h1 := (hK i h35).1
  rw [e] at h1
  exact vk_R.warm hU.1 h1
theorem str_of (hg : ∀ c ∈ GVN, c.before args s = true) (ht : ∀ w ∈ tables_1, w.before args s = true) : ∃ K V : Nat → Nat, (∀ i, i < 35 → (sT i).eval args s none [] s = some (.ref (K i))) ∧ ∀ Ω : Wd, wX Ω = GX s → (∀ i, i < wN Ω → s.heap.size ≤ wA Ω i) → StrOk Ω K V := by
  obtain ⟨K, V, hK⟩ := str_at hg ht
  refine ⟨K, V, fun i hi => (hK i hi).2.2.2.2.2, fun Ω hX hs U hU => ?_⟩
  rw [hX] at hU
  refine ⟨fun i hi => ⟨vk_R.warm hU.1 (hK i hi).1, up_O hU (aa_up hs hU) (hK i hi).2.1, up_OF hU (aa_up hs hU) (hK i hi).2.2.1, up_OF hU (aa_up hs hU) (hK i hi).2.2.2.1, up_T hU (aa_up hs hU) (hK i hi).2.2.2.2.1⟩, up_Z hU (aa_up hs hU) (va_Zof (ht _ (tb5 (List.mem_of_getElem? (i := 233) rfl))) (ht _ (tb1 (List.mem_of_getElem? (i := 22) rfl))) (va_eqt (hg _ (gq (k := 17) (by decide +kernel)))) (a0_not s)), up_Zq hU (aa_up hs hU) (va_Zqof (ht _ (tb6 (List.mem_of_getElem? (i := 9) rfl))) (ht _ (tb1 (List.mem_of_getElem? (i := 30) rfl))) (hg _ (gq (k := 18) (by decide +kernel))) (a0_not s))⟩
end HYS
