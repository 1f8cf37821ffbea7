section GS
variable {p : Program} {l : Launch} {e : Env} {s : State} {m : MethodId} {args : Array Value} {below : List Frame} {meth : Method} {c : Code} {F Lc : Nat} {cc : ByteArray} {nL : Nat} {own : String} {ret : Option FieldType} {Ω : Wd} {β : Type} {cv : β → Out} {b : Option β} {pc : Nat} {L : List (Nat × Value)} {st : List Value} {M : Mem}
/-- the string constants' characters -/
def SB : List (List Int32) := [[116, 104, 101, 114, 101, 32, 105, 115, 32, 110, 111, 32, 115, 117, 99, 104, 32, 112, 97, 114, 116, 32, 111, 114, 32, 105, 110, 100, 101, 120], [97, 110, 32, 97, 114, 103, 117, 109, 101, 110, 116, 32, 111, 114, 32, 116, 104, 101, 32, 116, 101, 120, 116, 32, 105, 115, 32, 110, 111, 116, 32, 97, 32, 118, 97, 108, 105, 100, 32, 111, 110, 101], [116, 104, 105, 115, 32, 105, 115, 32, 110, 111, 116, 32, 112, 111, 115, 115, 105, 98, 108, 101, 32, 105, 110, 32, 116, 104, 101, 32, 112, 114, 101, 115, 101, 110, 116, 32, 115, 116, 97, 116, 101], [116, 104, 105, 115, 32, 105, 115, 32, 114, 101, 102, 117, 115, 101, 100, 44, 32, 97, 110, 100, 32, 116, 104, 101, 32, 114, 101, 97, 115, 111, 110, 32, 105, 115, 32, 107, 101, 112, 116], [116, 104, 101, 114, 101, 32, 105, 115, 32, 110, 111, 116, 104, 105, 110, 103, 32, 111, 102, 32, 116, 104, 105, 115, 32, 107, 105, 110, 100], [116, 104, 101, 114, 101, 32, 105, 115, 32, 110, 111, 32, 115, 117, 99, 104, 32, 106, 117, 110, 99, 116, 105, 111, 110], [119, 104, 97, 116, 32, 105, 115, 32, 110, 111, 116, 32, 48, 32, 116, 111, 32, 55], [110, 111, 32, 115, 101, 99, 111, 110, 100, 32, 104, 97, 115, 32, 112, 97, 115, 115, 101, 100], [110, 111, 32, 114, 101, 113, 117, 101, 115, 116, 32, 119, 97, 115, 32, 115, 101, 114, 118, 101, 100], [97, 32, 99, 111, 109, 109, 97, 110, 100, 32, 111, 102, 32, 116, 104, 101, 32, 116, 101, 120, 116, 32, 99, 97, 110, 110, 111, 116, 32, 98, 101, 32, 99, 97, 114, 114, 105, 101, 100, 32, 111, 117, 116], [106, 117, 110, 99, 116, 105, 111, 110, 32], [32, 97, 116, 32], [58, 32, 112, 108, 97, 110, 32], [44, 32, 115, 101, 99, 111, 110, 100, 32], [111, 110], [44, 32, 110, 111, 110, 101, 32], [44, 32], [32], [111, 102, 102], [103, 114, 101, 101, 110, 58, 111, 102, 102, 115, 101, 116, 58, 112, 114, 101, 115, 115, 58, 114, 117, 110, 58, 99, 104, 97, 110, 103, 101, 58, 114, 111, 97, 100, 58], [106, 117, 110, 99, 116, 105, 111, 110, 32], [32, 97, 116, 32], [58, 32, 112, 108, 97, 110, 32], [44, 32, 115, 101, 99, 111, 110, 100, 32], [111, 110], [44, 32], [110, 111, 110, 101, 32], [32], [111, 102, 102], [103, 114, 101, 101, 110], [111, 102, 102, 115, 101, 116], [112, 114, 101, 115, 115], [114, 117, 110], [99, 104, 97, 110, 103, 101], [114, 111, 97, 100]]
def sl (i : Nat) : Nat := (SB.getD i []).length
def sb (i j : Nat) : Int32 := (SB.getD i []).getD j 0
/-- the string constants lie in the heap, as they are, at K; their bytes at V -/
def StrOk (Ω : Wd) (K V : Nat → Nat) : Prop := ∀ U : State, wX Ω U → (∀ i, i < 35 → vk_R (SW.getD i ("", 0, "")).1 (SW.getD i ("", 0, "")).2.1 (SW.getD i ("", 0, "")).2.2 (K i) U ∧ va_O "java/lang/String" (K i) (AA Ω U.heap.size) U U.heap ∧ va_OF "java/lang/String" "coder" "B" (.int 0) (K i) (AA Ω U.heap.size) U U.heap ∧ va_OF "java/lang/String" "value" "[B" (.ref (V i)) (K i) (AA Ω U.heap.size) U U.heap ∧ va_T .byte (V i) (sl i) (fun j => .int (sb i j)) (AA Ω U.heap.size) U U.heap) ∧
  va_Z "java/lang/String" "COMPACT_STRINGS" "Z" (.int 1) (AA Ω U.heap.size) U U.heap ∧ va_Zq "jdk/internal/util/Preconditions" "SIOOBE_FORMATTER" "Ljava/util/function/BiFunction;" (AA Ω U.heap.size) U U.heap
theorem inb_lt {i : Int32} {n : Nat} (h : inb i n = true) : i.toNatClampNeg < n := Nat.not_le.mp (fun q => inb_in h (Or.inr q))
theorem s_getf {o n d ref : String} {idx q : Nat} {v : Value} (hE : ∀ U : State, wX Ω U → va_OF o n d v q (AA Ω U.heap.size) U U.heap) (hlk : Cond.fieldLink own idx ref n d ∈ UW) (hrf : ref = o) (nx : Nat) (hn : pc + 3 = nx) (dd : decode cc pc = .ok (.getfield idx, 3)) (k : G p l e s m args below meth c F Lc cc nL own ret Ω cv b nx L (v :: st) M) : G p l e s m args below meth c F Lc cc nL own ret Ω cv b pc L (.ref q :: st) M := fun B X r hr H locs ls hP hS hl => by
  subst hn; subst hrf
  exact vk_getf B.1 B.2.1 (hE s B.2.2.2.2.2.2.1) hS B.2.2.2.1 (B.2.2.2.2.1 _ hlk) (fun _ h => h) dd (k B X r hr H locs ls hP hS hl)
theorem s_gets {C n d ref : String} {idx : Nat} {v : Value} (hE : ∀ U : State, wX Ω U → va_Z C n d v (AA Ω U.heap.size) U U.heap) (hlk : Cond.fieldLink own idx ref n d ∈ UW) (hrf : ref = C) (nx : Nat) (hn : pc + 3 = nx) (dd : decode cc pc = .ok (.getstatic idx, 3)) (k : G p l e s m args below meth c F Lc cc nL own ret Ω cv b nx L (v :: st) M) : G p l e s m args below meth c F Lc cc nL own ret Ω cv b pc L st M := fun B X r hr H locs ls hP hS hl => by
  subst hn; subst hrf
  exact va_gets B.1 B.2.1 (hE s B.2.2.2.2.2.2.1) hS B.2.2.2.1 (B.2.2.2.2.1 _ hlk) (fun _ h => h) dd (k B X r hr H locs ls hP hS hl)
theorem s_getsq {C n d ref : String} {idx : Nat} (hE : ∀ U : State, wX Ω U → va_Zq C n d (AA Ω U.heap.size) U U.heap) (hlk : Cond.fieldLink own idx ref n d ∈ UW) (hrf : ref = C) (nx : Nat) (hn : pc + 3 = nx) (dd : decode cc pc = .ok (.getstatic idx, 3)) (k : ∀ v : Value, v.category = 1 → G p l e s m args below meth c F Lc cc nL own ret Ω cv b nx L (v :: st) M) : G p l e s m args below meth c F Lc cc nL own ret Ω cv b pc L st M := fun B X r hr H locs ls hP hS hl => by
  subst hn; subst hrf
  rcases hE s B.2.2.2.2.2.2.1 with h | ⟨t, h⟩
  · exact va_gets B.1 B.2.1 h hS B.2.2.2.1 (B.2.2.2.2.1 _ hlk) (fun _ h => h) dd (k .null rfl B X r hr H locs ls hP hS hl)
  · exact va_gets B.1 B.2.1 h hS B.2.2.2.1 (B.2.2.2.2.1 _ hlk) (fun _ h => h) dd (k (.ref t) rfl B X r hr H locs ls hP hS hl)
theorem s_tlen {ty : FieldType} {t N : Nat} {f : Nat → Value} (hE : ∀ U : State, wX Ω U → va_T ty t N f (AA Ω U.heap.size) U U.heap) (v : Int32) (hv : Int32.ofNat N = v) (nx : Nat) (hn : pc + 1 = nx) (dd : decode cc pc = .ok (.arraylength, 1)) (k : G p l e s m args below meth c F Lc cc nL own ret Ω cv b nx L (.int v :: st) M) : G p l e s m args below meth c F Lc cc nL own ret Ω cv b pc L (.ref t :: st) M := fun B X r hr H locs ls hP hS hl => by
  subst hn
  exact va_tlen B.1 B.2.1 (hE s B.2.2.2.2.2.2.1) hS hv dd (k B X r hr H locs ls hP hS hl)
theorem s_tb {t N : Nat} {f : Nat → Value} (hE : ∀ U : State, wX Ω U → va_T .byte t N f (AA Ω U.heap.size) U U.heap) {i : Int32} (hi : vp_in i N) (nx : Nat) (hn : pc + 1 = nx) (dd : decode cc pc = .ok (.baload, 1)) (k : G p l e s m args below meth c F Lc cc nL own ret Ω cv b nx L (f i.toNatClampNeg :: st) M) : G p l e s m args below meth c F Lc cc nL own ret Ω cv b pc L (.int i :: .ref t :: st) M := fun B X r hr H locs ls hP hS hl => by
  subst hn
  exact va_tb B.1 B.2.1 (hE s B.2.2.2.2.2.2.1) hS hi rfl dd (k B X r hr H locs ls hP hS hl)
theorem s_ti {t N : Nat} {f : Nat → Value} (hE : ∀ U : State, wX Ω U → va_T .int t N f (AA Ω U.heap.size) U U.heap) {i : Int32} (hi : vp_in i N) (nx : Nat) (hn : pc + 1 = nx) (dd : decode cc pc = .ok (.iaload, 1)) (k : G p l e s m args below meth c F Lc cc nL own ret Ω cv b nx L (f i.toNatClampNeg :: st) M) : G p l e s m args below meth c F Lc cc nL own ret Ω cv b pc L (.int i :: .ref t :: st) M := fun B X r hr H locs ls hP hS hl => by
  subst hn
  exact va_ti B.1 B.2.1 (hE s B.2.2.2.2.2.2.1) hS hi rfl dd (k B X r hr H locs ls hP hS hl)
theorem s_aloadV {j : Fin 4} {i : Nat} {v : Value} (hv : v = .null ∨ ∃ a, v = .ref a) (k0 : Nat) (hk : L[k0]? = some (i, v)) (hi : (j : Nat) = i) (nx : Nat) (hn : pc + 1 = nx) (dd : decode cc pc = .ok (.aload_n j, 1)) (k : G p l e s m args below meth c F Lc cc nL own ret Ω cv b nx L (v :: st) M) : G p l e s m args below meth c F Lc cc nL own ret Ω cv b pc L st M := by
  rcases hv with rfl | ⟨a, rfl⟩
  · exact g_aload_nN k0 hk hi nx hn dd k
  · exact g_aload_n k0 hk hi nx hn dd k
theorem s_ldc {K V : Nat → Nat} (hK : StrOk Ω K V) (i : Nat) (hi : i < 35) {idx : Nat} {tx : String} (hS0 : SW.getD i ("", 0, "") = (own, idx, tx)) (nx : Nat) (hn : pc + 2 = nx) (dd : decode cc pc = .ok (.ldc idx, 2)) (k : G p l e s m args below meth c F Lc cc nL own ret Ω cv b nx L (.ref (K i) :: st) M) : G p l e s m args below meth c F Lc cc nL own ret Ω cv b pc L st M := fun B X r hr H locs ls hP hS hl => by
  subst hn
  have h := ((hK s B.2.2.2.2.2.2.1).1 i hi).1
  rw [hS0] at h
  exact va_ldcS B.1 B.2.1 B.2.2.2.1 h dd (k B X r hr H locs ls hP hS hl)
theorem s_ldcw {K V : Nat → Nat} (hK : StrOk Ω K V) (i : Nat) (hi : i < 35) {idx : Nat} {tx : String} (hS0 : SW.getD i ("", 0, "") = (own, idx, tx)) (nx : Nat) (hn : pc + 3 = nx) (dd : decode cc pc = .ok (.ldc_w idx, 3)) (k : G p l e s m args below meth c F Lc cc nL own ret Ω cv b nx L (.ref (K i) :: st) M) : G p l e s m args below meth c F Lc cc nL own ret Ω cv b pc L st M := fun B X r hr H locs ls hP hS hl => by
  subst hn
  have h := ((hK s B.2.2.2.2.2.2.1).1 i hi).1
  rw [hS0] at h
  intro T hT X0
  have h2 : vk_R own idx tx (K i) s := h
  obtain ⟨t, a1, b1⟩ := k B X r hr H locs ls hP hS hl T hT X0
  exact ⟨t, X0.ldcStringW B.1 B.2.2.2.1 (text := tx) (a := K i) h2.1 h2.2 (g := F0 m pc ls st) rfl (by rw [B.2.1]; exact dd) t a1, b1⟩
/-- a call on a string constant -/
theorem call_K {R : Room} {Q : State → Prop} {K V : Nat → Nat} (hK : StrOk Ω K V) {i : Nat} (hi : i < 35) {y : MethodName} {cc' : ByteArray} {nL' : Nat} {ret' : Option FieldType} {F' Lc' idx : Nat} {As stk : List Value} {v : Option Value} {M' : Mem} {H : Heap} {locs : List Loc} {ls : Array Slot} (B : Bd p s m args meth c cc nL own ret Ω)
    (hM : ∀ sz, Met l y (.code y cc' nL' ret' :: UW) (Rm F' Lc' false) (PreC Ω (.ref (K i) :: As) M sz) (Qv Ω v M' sz) 0 0 (AA Ω sz)) (d : decode cc pc = .ok (.invokevirtual idx, 3)) (hU : uw_V own idx "java/lang/String" y (.code y cc' nL' ret')) (hyc : y.cls = "java/lang/String") (hy : yOk y As.length) (hR : F' + 1 ≤ R.frames ∧ 8 + (nL' + 11) + Lc' ≤ R.locals) (hw : (st.map fun v => v.category).sum ≤ 8) (hst : stk = As.reverse ++ .ref (K i) :: st)
    (hP : va_P (wG Ω) CL (wd Ω M) H) (hS : va_S (AA Ω s.heap.size) s.heap H locs) (hl : lv_has ls nL L)
    (kk : ∀ (H1 : Heap) (locs1 : List Loc), va_P (wG Ω) CL (wd Ω M') H1 → va_S (AA Ω s.heap.size) s.heap H1 locs1 → W p l e R s m args below meth c H1 locs1 0 0 Q (F0 m (pc + 3) ls (v.toList ++ st))) : W p l e R s m args below meth c H locs 0 0 Q (F0 m pc ls stk) := by
  have hrec : ∃ cell : Cell, H[K i]? = some cell ∧ cell.vm.isStatics = false ∧ s.vm.findClass "java/lang/String" = some cell.cls := by
    obtain ⟨cell, h1, h2, h3, -⟩ := ((hK s B.2.2.2.2.2.2.1).1 i hi).2.1.kept hS.2.1
    exact ⟨cell, h1, h2, h3⟩
  exact core_call (va_runV (As := As) (rest := st) ⟨B.1, B.2.1, B.2.2.1, B.2.2.2.1, B.2.2.2.2.1⟩ (hM H.size) (cwV As.length B.2.2.2.2.1 hU.good rfl rfl rfl ⟨hyc, hy⟩ hR) ⟨pre_blind B.2.2.2.2.2.2.2.2.2, hrec, fun U hU hW => ⟨rfl, by rw [hU], ok_pre B hP hS hU hW⟩⟩ rfl rfl hl.1 hst (lv_room hw) d ⟨Nat.zero_le _, Nat.zero_le _⟩) hS kk
theorem p_cK {K V : Nat → Nat} (hK : StrOk Ω K V) (i : Nat) (hi : i < 35) {y : MethodName} {cc' : ByteArray} {nL' : Nat} {ret' : Option FieldType} {F' Lc' idx : Nat} (As : List Value) (st : List Value) {stk : List Value} {f : Option Int32} {bd : Int32 → Option β} (hC : ∀ r, f = some r → Ct l y (.code y cc' nL' ret') F' Lc' Ω (.ref (K i) :: As) M (cpI M r)) (d : decode cc pc = .ok (.invokevirtual idx, 3)) (hU : uw_V own idx "java/lang/String" y (.code y cc' nL' ret')) (hyc : y.cls = "java/lang/String") (hy : yOk y As.length) (hR : F' + 1 ≤ F ∧ 8 + (nL' + 11) + Lc' ≤ Lc) (hw : (st.map fun v => v.category).sum ≤ 8) (hst : stk = As.reverse ++ .ref (K i) :: st) (n : Nat) (hn : pc + 3 = n) (k : ∀ a, G p l e s m args below meth c F Lc cc nL own ret Ω cv (bd a) n L (.int a :: st) M) : G p l e s m args below meth c F Lc cc nL own ret Ω cv (clp f bd) pc L stk M := fun B X r hr H locs ls hP hS hl => by
  subst hn
  obtain ⟨a, hf, hb⟩ := clp_inv hr
  exact call_K hK hi B (hC _ hf) d hU hyc hy hR hw hst hP hS hl (fun H1 locs1 hP1 hS1 => k a B X r hb H1 locs1 ls hP1 hS1 hl)

end GS
set_option maxRecDepth 100000 in
set_option maxHeartbeats 4000000 in
theorem c_J0_coder {Ω : Wd} (l : Launch) (hO : OkW Ω) {K V : Nat → Nat} (hK : StrOk Ω K V) (i : Nat) (hi : i < 35) (M : Mem) : ∀ r, (some (0 : Int32)) = some r → Ct l yJ0_coder_7d493 (.code yJ0_coder_7d493 cJ0_coder_7d493 1 (some .byte)) 0 0 Ω [.ref (K i)] M (cpI M r) := by
  refine ofGF [(0, .ref (K i))] hO (by decide +kernel) rfl (Nat.le_of_ble_eq_true rfl) rfl (fun _ => ⟨_, _, rfl⟩) ?_
  intro p e s m args below meth c
  refine s_gets (fun U hU => (hK U hU).2.1) wf_J0_38 rfl 3 rfl dJ0_coder_7d493_0 ?_
  refine g_eq (b2 := if (1 : Int32) = 0 then none else some 0) rfl ?_
  refine g_if_eq 13 (by decide) 6 rfl dJ0_coder_7d493_3 ?_ ?_
  · exact fun _ _ r hr => by cases hr
  · refine g_aload_n 0 rfl rfl 7 rfl dJ0_coder_7d493_6 ?_
    refine s_getf (fun U hU => ((hK U hU).1 i hi).2.2.1) wf_J0_15 rfl 10 rfl dJ0_coder_7d493_7 ?_
    refine g_goto 14 (by decide) dJ0_coder_7d493_10 ?_
    exact p_zret rfl rfl dJ0_coder_7d493_14
set_option maxRecDepth 100000 in
set_option maxHeartbeats 4000000 in
theorem c_J0_isLatin1 {Ω : Wd} (l : Launch) (hO : OkW Ω) {K V : Nat → Nat} (hK : StrOk Ω K V) (i : Nat) (hi : i < 35) (M : Mem) : ∀ r, (some (1 : Int32)) = some r → Ct l yJ0_isLatin1_aae02 (.code yJ0_isLatin1_aae02 cJ0_isLatin1_aae02 1 (some .boolean)) 0 0 Ω [.ref (K i)] M (cpI M r) := by
  refine ofGF [(0, .ref (K i))] hO (by decide +kernel) rfl (Nat.le_of_ble_eq_true rfl) rfl (fun _ => ⟨_, _, rfl⟩) ?_
  intro p e s m args below meth c
  refine s_gets (fun U hU => (hK U hU).2.1) wf_J0_38 rfl 3 rfl dJ0_isLatin1_aae02_0 ?_
  refine g_eq (b2 := if (1 : Int32) = 0 then none else some 1) rfl ?_
  refine g_if_eq 17 (by decide) 6 rfl dJ0_isLatin1_aae02_3 ?_ ?_
  · exact fun _ _ r hr => by cases hr
  · refine g_aload_n 0 rfl rfl 7 rfl dJ0_isLatin1_aae02_6 ?_
    refine s_getf (fun U hU => ((hK U hU).1 i hi).2.2.1) wf_J0_15 rfl 10 rfl dJ0_isLatin1_aae02_7 ?_
    refine g_eq (b2 := if (0 : Int32) = 0 then some 1 else none) rfl ?_
    refine g_if_ne 17 (by decide) 13 rfl dJ0_isLatin1_aae02_10 ?_ ?_
    · refine g_iconst 1 14 rfl dJ0_isLatin1_aae02_13 (by decide) ?_
      refine g_goto 18 (by decide) dJ0_isLatin1_aae02_14 ?_
      exact p_zret rfl rfl dJ0_isLatin1_aae02_18
    · exact fun _ _ r hr => by cases hr
def fJ0_length (i : Nat) : Option Int32 := some (nI (sl i))
set_option maxRecDepth 100000 in
set_option maxHeartbeats 4000000 in
theorem c_J0_length {Ω : Wd} (l : Launch) (hO : OkW Ω) {K V : Nat → Nat} (hK : StrOk Ω K V) (i : Nat) (hi : i < 35) (M : Mem) : ∀ r, fJ0_length i = some r → Ct l yJ0_length_8abf5 (.code yJ0_length_8abf5 cJ0_length_8abf5 1 (some .int)) 1 20 Ω [.ref (K i)] M (cpI M r) := by
  refine ofGF [(0, .ref (K i))] hO (by decide +kernel) rfl (Nat.le_of_ble_eq_true rfl) rfl (fun _ => ⟨_, _, rfl⟩) ?_
  intro p e s m args below meth c
  refine g_aload_n 0 rfl rfl 1 rfl dJ0_length_8abf5_0 ?_
  refine s_getf (fun U hU => ((hK U hU).1 i hi).2.2.2.1) wf_J0_9 rfl 4 rfl dJ0_length_8abf5_1 ?_
  refine s_tlen (fun U hU => ((hK U hU).1 i hi).2.2.2.2) (nI (sl i)) rfl 5 rfl dJ0_length_8abf5_4 ?_
  refine g_aload_n 0 rfl rfl 6 rfl dJ0_length_8abf5_5 ?_
  refine g_eq (b2 := clp (some 0) (fun x => some (nI (sl i) >>> (x &&& 31)))) (by show some (nI (sl i)) = some (nI (sl i) >>> ((0 : Int32) &&& 31)); rw [sb_shr0]) ?_
  refine p_cK hK i hi [] [.int (nI (sl i))] (c_J0_coder l hO hK i hi M) dJ0_length_8abf5_6 uv_J0_335 rfl yk_J0_coder_7d493 ⟨by decide, by decide⟩ (Nat.le_of_ble_eq_true rfl) rfl 9 rfl ?_
  intro x
  refine g_ishr 10 rfl dJ0_length_8abf5_9 ?_
  exact p_iret rfl dJ0_length_8abf5_10
def fJ3_checkIndex (p0 p1 : Int32) : Option Int32 := if p0 < 0 then none else if p0 < p1 then some p0 else none
set_option maxRecDepth 100000 in
set_option maxHeartbeats 4000000 in
theorem c_J3_checkIndex {Ω : Wd} (l : Launch) (hO : OkW Ω) (v : Value) (hv : v.category = 1) (M : Mem) (p0 p1 : Int32) : ∀ r, fJ3_checkIndex p0 p1 = some r → Ct l yJ3_checkIndex_8e157 (.code yJ3_checkIndex_8e157 cJ3_checkIndex_8e157 3 (some .int)) 0 0 Ω [.int p0, .int p1, v] M (cpI M r) := by
  have hL : lv_args 0 [.int p0, .int p1, v] = [(0, .int p0), (1, .int p1), (2, v)] := by cases v <;> first | rfl | cases hv
  have hn : (lg_sl [.int p0, .int p1, v]).length ≤ 3 := by cases v <;> first | exact Nat.le_of_ble_eq_true rfl | cases hv
  refine ofGF [(0, .int p0), (1, .int p1), (2, v)] hO (by decide +kernel) rfl hn hL (fun _ => ⟨_, _, rfl⟩) ?_
  intro p e s m args below meth c
  unfold fJ3_checkIndex
  refine g_iload_n 0 rfl rfl 1 rfl dJ3_checkIndex_8e157_0 ?_
  refine g_if_lt 9 (by decide) 4 rfl dJ3_checkIndex_8e157_1 ?_ ?_
  · exact fun _ _ r hr => by cases hr
  · refine g_iload_n 0 rfl rfl 5 rfl dJ3_checkIndex_8e157_4 ?_
    refine g_iload_n 1 rfl rfl 6 rfl dJ3_checkIndex_8e157_5 ?_
    refine g_icmp_lt 16 (by decide) 9 rfl dJ3_checkIndex_8e157_6 ?_ ?_
    · refine g_iload_n 0 rfl rfl 17 rfl dJ3_checkIndex_8e157_16 ?_
      exact p_iret rfl dJ3_checkIndex_8e157_17
    · exact fun _ _ r hr => by cases hr
def fJ0_checkIndex (p0 p1 : Int32) : Option Unit := clp (fJ3_checkIndex p0 p1) (fun _ => some ())
set_option maxRecDepth 100000 in
set_option maxHeartbeats 4000000 in
theorem c_J0_checkIndex {Ω : Wd} (l : Launch) (hO : OkW Ω) {K V : Nat → Nat} (hK : StrOk Ω K V) (M : Mem) (p0 p1 : Int32) : ∀ r, fJ0_checkIndex p0 p1 = some r → Ct l yJ0_checkIndex_df160 (.code yJ0_checkIndex_df160 cJ0_checkIndex_df160 2 none) 1 22 Ω [.int p0, .int p1] M (cpV M r) := by
  refine ofGF [(0, .int p0), (1, .int p1)] hO (by decide +kernel) rfl (Nat.le_of_ble_eq_true rfl) rfl (fun _ => ⟨_, _, rfl⟩) ?_
  intro p e s m args below meth c
  unfold fJ0_checkIndex
  refine g_iload_n 0 rfl rfl 1 rfl dJ0_checkIndex_df160_0 ?_
  refine g_iload_n 1 rfl rfl 2 rfl dJ0_checkIndex_df160_1 ?_
  refine s_getsq (fun U hU => (hK U hU).2.2) wf_J0_1053 rfl 5 rfl dJ0_checkIndex_df160_2 ?_
  intro v hv
  refine p_cTI [.int p0, .int p1, v] [] (c_J3_checkIndex l hO v hv M p0 p1) dJ0_checkIndex_df160_5 ut_J0_1059 yk_J3_checkIndex_8e157 ⟨by decide, by decide⟩ (Nat.le_of_ble_eq_true rfl) rfl 8 rfl ?_
  intro x
  refine g_pop 9 rfl dJ0_checkIndex_df160_8 rfl ?_
  exact p_vret rfl dJ0_checkIndex_df160_9
def fJ1_charAt (i : Nat) (p0 : Int32) : Option Int32 := clp (fJ0_checkIndex p0 (nI (sl i))) (fun _ => grd (inb p0 (sl i)) (some (sb i p0.toNatClampNeg &&& 255)))
set_option maxRecDepth 100000 in
set_option maxHeartbeats 4000000 in
theorem c_J1_charAt {Ω : Wd} (l : Launch) (hO : OkW Ω) {K V : Nat → Nat} (hK : StrOk Ω K V) (i : Nat) (hi : i < 35) (M : Mem) (p0 : Int32) : ∀ r, fJ1_charAt i p0 = some r → Ct l yJ1_charAt_3b067 (.code yJ1_charAt_3b067 cJ1_charAt_3b067 2 (some .char)) 2 43 Ω [.ref (V i), .int p0] M (cpI M r) := by
  refine ofGF [(0, .ref (V i)), (1, .int p0)] hO (by decide +kernel) rfl (Nat.le_of_ble_eq_true rfl) rfl (fun _ => ⟨_, _, rfl⟩) ?_
  intro p e s m args below meth c
  unfold fJ1_charAt
  refine g_iload_n 1 rfl rfl 1 rfl dJ1_charAt_3b067_0 ?_
  refine g_aload_n 0 rfl rfl 2 rfl dJ1_charAt_3b067_1 ?_
  refine s_tlen (fun U hU => ((hK U hU).1 i hi).2.2.2.2) (nI (sl i)) rfl 3 rfl dJ1_charAt_3b067_2 ?_
  refine p_cTV [.int p0, .int (nI (sl i))] [] (c_J0_checkIndex l hO hK M p0 (nI (sl i))) dJ1_charAt_3b067_3 ut_J1_9 yk_J0_checkIndex_df160 ⟨by decide, by decide⟩ (Nat.le_of_ble_eq_true rfl) rfl 6 rfl ?_
  intro u
  refine g_grd (fun hin => ?_)
  refine g_aload_n 0 rfl rfl 7 rfl dJ1_charAt_3b067_6 ?_
  refine g_iload_n 1 rfl rfl 8 rfl dJ1_charAt_3b067_7 ?_
  refine s_tb (fun U hU => ((hK U hU).1 i hi).2.2.2.2) (inb_in hin) 9 rfl dJ1_charAt_3b067_8 ?_
  refine g_sipush 255 12 rfl dJ1_charAt_3b067_9 (by decide) ?_
  refine g_iand 13 rfl dJ1_charAt_3b067_12 ?_
  refine g_i2c 14 rfl dJ1_charAt_3b067_13 ?_
  rw [sc_c2]
  exact p_zret (sc_nar _) rfl dJ1_charAt_3b067_14
def fJ0_charAt (i : Nat) (p0 : Int32) : Option Int32 := clp (some (1 : Int32)) (fun x => if x = 0 then none else clp (fJ1_charAt i p0) (fun y => grd (isc y) (some y)))
set_option maxRecDepth 100000 in
set_option maxHeartbeats 4000000 in
theorem c_J0_charAt {Ω : Wd} (l : Launch) (hO : OkW Ω) {K V : Nat → Nat} (hK : StrOk Ω K V) (i : Nat) (hi : i < 35) (M : Mem) (p0 : Int32) : ∀ r, fJ0_charAt i p0 = some r → Ct l yJ0_charAt_5068e (.code yJ0_charAt_5068e cJ0_charAt_5068e 2 (some .char)) 3 64 Ω [.ref (K i), .int p0] M (cpI M r) := by
  refine ofGF [(0, .ref (K i)), (1, .int p0)] hO (by decide +kernel) rfl (Nat.le_of_ble_eq_true rfl) rfl (fun _ => ⟨_, _, rfl⟩) ?_
  intro p e s m args below meth c
  unfold fJ0_charAt
  refine g_aload_n 0 rfl rfl 1 rfl dJ0_charAt_5068e_0 ?_
  refine p_cK hK i hi [] [] (c_J0_isLatin1 l hO hK i hi M) dJ0_charAt_5068e_1 uv_J0_492 rfl yk_J0_isLatin1_aae02 ⟨by decide, by decide⟩ (Nat.le_of_ble_eq_true rfl) rfl 4 rfl ?_
  intro x
  refine g_if_eq 16 (by decide) 7 rfl dJ0_charAt_5068e_4 ?_ ?_
  · exact fun _ _ r hr => by cases hr
  · refine g_aload_n 0 rfl rfl 8 rfl dJ0_charAt_5068e_7 ?_
    refine s_getf (fun U hU => ((hK U hU).1 i hi).2.2.2.1) wf_J0_9 rfl 11 rfl dJ0_charAt_5068e_8 ?_
    refine g_iload_n 1 rfl rfl 12 rfl dJ0_charAt_5068e_11 ?_
    refine p_cTI [.ref (V i), .int p0] [] (c_J1_charAt l hO hK i hi M p0) dJ0_charAt_5068e_12 ut_J0_495 yk_J1_charAt_3b067 ⟨by decide, by decide⟩ (Nat.le_of_ble_eq_true rfl) rfl 15 rfl ?_
    intro y
    exact p_cret rfl dJ0_charAt_5068e_15
