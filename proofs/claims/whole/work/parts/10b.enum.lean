section GE
variable {p : Program} {l : Launch} {e : Env} {s : State} {m : MethodId} {args : Array Value} {below : List Frame} {meth : Method} {c : Code} {F Lc : Nat} {cc : ByteArray} {nL : Nat} {own : String} {ret : Option FieldType} {Ω : Wd} {β : Type} {cv : β → Out} {b : Option β} {pc : Nat} {L : List (Nat × Value)} {st : List Value} {M : Mem}
/-- the map of the switch over the words, as the start has it -/
def smw (k : Nat) : Int32 := ([1, 2, 3, 4, 5, 0] : List Int32).getD k 0
def nw (k : Nat) : Int32 := ([5, 2, 2, 1, 1, 3] : List Int32).getD k 0
/-- the words of commands, as constants in the heap -/
def EnOk (Ω : Wd) (E K : Nat → Nat) (t0 t1 : Nat) : Prop := ∀ U : State, wX Ω U → (∀ k, k < 6 → va_O "SignalRoad$Word" (E k) (AA Ω U.heap.size) U U.heap ∧ va_OF "SignalRoad$Word" "letters" "Ljava/lang/String;" (.ref (K (29 + k))) (E k) (AA Ω U.heap.size) U U.heap ∧ va_OF "SignalRoad$Word" "numbers" "I" (.int (nw k)) (E k) (AA Ω U.heap.size) U U.heap ∧ va_OF "java/lang/Enum" "ordinal" "I" (.int (nI k)) (E k) (AA Ω U.heap.size) U U.heap) ∧
  va_Z "SignalRoad$Word" "ALL" "[LSignalRoad$Word;" (.ref t0) (AA Ω U.heap.size) U U.heap ∧ va_T (.object "SignalRoad$Word") t0 6 (fun j => .ref (E j)) (AA Ω U.heap.size) U U.heap ∧ va_Z "SignalRoad$1" "$SwitchMap$SignalRoad$Word" "[I" (.ref t1) (AA Ω U.heap.size) U U.heap ∧ va_T .int t1 6 (fun j => .int (smw j)) (AA Ω U.heap.size) U U.heap
def ec (cA : ClassId) (E : Nat → Nat) (f : Nat → Int32) : va_E := .inl (cA, 10, .inr (.inr (.inr (.inr (fun j => if f j < 0 then none else some (E (f j).toNatClampNeg))))))
/-- the script's array of words: cell 475 -/
def WA (Ω : Wd) (E : Nat → Nat) : Prop := 475 < wN Ω ∧ ∃ (cA : ClassId) (t0 : Nat), wC Ω 475 = ec cA E ∧ (wT Ω)[t0]? = some (cA, .object "SignalRoad$Word")
theorem e_getsN {C n d ref host : String} {idx : Nat} {v : Value} (hE : ∀ U : State, wX Ω U → va_Z C n d v (AA Ω U.heap.size) U U.heap) (hlk : Cond.fieldLinkNest own idx ref n d host ∈ NW) (hrf : ref = C) (nx : Nat) (hn : pc + 3 = nx) (dd : decode cc pc = .ok (.getstatic idx, 3)) (k : G p l e s m args below meth c F Lc cc nL own ret Ω cv b nx L (v :: st) M) : G p l e s m args below meth c F Lc cc nL own ret Ω cv b pc L st M := fun B X r hr H locs ls hP hS hl => by
  subst hn; subst hrf
  exact va_getsN B.1 B.2.1 (hE s B.2.2.2.2.2.2.1) hS B.2.2.2.1 (va_Nw.use rfl (B.2.2.2.2.2.2.2.2.2.2.2.2 s B.2.2.2.2.2.2.1 _ hlk)) (fun _ h => h) dd (k B X r hr H locs ls hP hS hl)
theorem e_tq {C : String} {t N : Nat} {f : Nat → Value} (hE : ∀ U : State, wX Ω U → va_T (.object C) t N f (AA Ω U.heap.size) U U.heap) {i : Int32} (nx : Nat) (hn : pc + 1 = nx) (dd : decode cc pc = .ok (.aaload, 1)) (k : inb i N = true → G p l e s m args below meth c F Lc cc nL own ret Ω cv b nx L (f i.toNatClampNeg :: st) M) : G p l e s m args below meth c F Lc cc nL own ret Ω cv (grd (inb i N) b) pc L (.int i :: .ref t :: st) M := fun B X r hr H locs ls hP hS hl => by
  subst hn
  exact vb_tq B.1 B.2.1 (hE s B.2.2.2.2.2.2.1) hS (inb_in (grd_t hr).1) rfl dd (k (grd_t hr).1 B X r (grd_t hr).2 H locs ls hP hS hl)
theorem e_ti {t N : Nat} {f : Nat → Value} (hE : ∀ U : State, wX Ω U → va_T .int t N f (AA Ω U.heap.size) U U.heap) {i : Int32} (nx : Nat) (hn : pc + 1 = nx) (dd : decode cc pc = .ok (.iaload, 1)) (k : G p l e s m args below meth c F Lc cc nL own ret Ω cv b nx L (f i.toNatClampNeg :: st) M) : G p l e s m args below meth c F Lc cc nL own ret Ω cv (grd (inb i N) b) pc L (.int i :: .ref t :: st) M := fun B X r hr H locs ls hP hS hl => by
  subst hn
  exact va_ti B.1 B.2.1 (hE s B.2.2.2.2.2.2.1) hS (inb_in (grd_t hr).1) rfl dd (k B X r (grd_t hr).2 H locs ls hP hS hl)
theorem ec_set (cA : ClassId) (E : Nat → Nat) (f : Nat → Int32) (i k : Nat) (hk : k < 2 ^ 31) : ec cA E (upd f i (nI k)) = .inl (cA, 10, .inr (.inr (.inr (.inr (va_up (fun j => if f j < 0 then none else some (E (f j).toNatClampNeg)) i (some (E k))))))) := by
  unfold ec
  congr 7
  funext j
  by_cases hj : j = i
  · subst hj
    simp only [pk_us, va_up, if_true]
    rw [if_neg (nI_pos hk), nI_clamp hk]
  · simp only [pk_un hj, va_up, if_neg hj]
theorem e_cls {C : String} {k : ClassId} (h : s.vm.findClass C = some k) : ∃ kC : Class, s.vm.classes[k]? = some kC := by
  obtain ⟨kE, hkE, -⟩ := Vm.findClass_spec h
  exact ⟨kE, hkE⟩
theorem e_asg {k : ClassId} {kC : Class} (h : s.vm.classes[k]? = some kC) : s.vm.assignable k k = true := by
  show s.vm.assignableAux (255 + 1) k k = true
  rw [Vm.assignableAux]
  simp only [beq_self_eq_true, Bool.true_or]
theorem e_any {H : Heap} {a : Nat} {cell : Cell} (q1 : H[a]? = some cell) (q2 : cell.vm.isStatics = false) (q3 : s.vm.findClass "SignalRoad$Word" = some cell.cls) : va_Any "SignalRoad$Word" s H a := by
  obtain ⟨kC, hkC⟩ := e_cls q3
  exact ⟨cell, q1, q2, ⟨kC, hkC⟩, fun comp hc => by
    rw [q3] at hc
    cases hc
    exact e_asg hkC⟩
theorem e_wst {E : Nat → Nat} (hW : WA Ω E) (k0 : Nat) (hk6 : k0 < 6) {K : Nat → Nat} {t0 t1 : Nat} (hE : EnOk Ω E K t0 t1) {i : Int32} {bd : Mem → Option β} (nx : Nat) (hn : pc + 1 = nx) (dd : decode cc pc = .ok (.aastore, 1)) (k : ∀ M, G p l e s m args below meth c F Lc cc nL own ret Ω cv (bd M) nx L st M) : G p l e s m args below meth c F Lc cc nL own ret Ω cv (grd (inb i 10) (bnd (mset M 475 i.toNatClampNeg (nI k0)) bd)) pc L (.ref (E k0) :: .int i :: .ref (wA Ω 475) :: st) M := fun B X r hr H locs ls hP hS hl => by
  subst hn
  obtain ⟨h1, cA, tt, h2, h3⟩ := hW
  have h9 : (wd Ω M)[475]? = some (wA Ω 475, .inl (cA, 10, .inr (.inr (.inr (.inr (fun j => if M 475 j < 0 then none else some (E (M 475 j).toNatClampNeg))))))) := by rw [wd_get Ω M h1, h2]; rfl
  have hany : va_Any "SignalRoad$Word" s H (E k0) := by
    obtain ⟨cell, q1, q2, q3, -⟩ := ((hE s B.2.2.2.2.2.2.1).1 k0 hk6).1.kept hS.2.1
    exact e_any q1 q2 q3
  refine va_astqM B.1 B.2.1 B.2.2.2.2.2.1 hP (wd_D B.2.2.2.2.2.2.2.2.2 M _) hS 475 tt h9 h3 hany (inb_in (grd_t hr).1) dd (fun H1 locs1 hP1 _ hS1 => ?_)
  have h10 : (wd Ω M).set 475 (wA Ω 475, .inl (cA, 10, .inr (.inr (.inr (.inr (va_up (fun j => if M 475 j < 0 then none else some (E (M 475 j).toNatClampNeg)) i.toNatClampNeg (some (E k0)))))))) = wd Ω (mset M 475 i.toNatClampNeg (nI k0)) := by
    have q := wd_set Ω M h1 (upd (M 475) i.toNatClampNeg (nI k0))
    rw [h2, ec_set cA E (M 475) _ k0 (by omega)] at q
    exact q
  rw [h10] at hP1
  exact k _ B X r (grd_t hr).2 H1 locs1 ls hP1 hS1 hl
theorem e_wld {E : Nat → Nat} (hW : WA Ω E) {i : Int32} {bn bs : Option β} (nx : Nat) (hn : pc + 1 = nx) (dd : decode cc pc = .ok (.aaload, 1)) (kn : G p l e s m args below meth c F Lc cc nL own ret Ω cv bn nx L (.null :: st) M) (ks : G p l e s m args below meth c F Lc cc nL own ret Ω cv bs nx L (.ref (E (M 475 i.toNatClampNeg).toNatClampNeg) :: st) M) : G p l e s m args below meth c F Lc cc nL own ret Ω cv (grd (inb i 10) (if M 475 i.toNatClampNeg < 0 then bn else bs)) pc L (.int i :: .ref (wA Ω 475) :: st) M := fun B X r hr H locs ls hP hS hl => by
  subst hn
  obtain ⟨h1, cA, tt, h2, h3⟩ := hW
  have h9 : (wd Ω M)[475]? = some (wA Ω 475, .inl (cA, 10, .inr (.inr (.inr (.inr (fun j => if M 475 j < 0 then none else some (E (M 475 j).toNatClampNeg))))))) := by rw [wd_get Ω M h1, h2]; rfl
  refine va_aldq B.1 B.2.1 B.2.2.2.2.2.1 hP 475 tt h9 h3 (inb_in (grd_t hr).1) dd ?_
  have hr2 := (grd_t hr).2
  by_cases hc : M 475 i.toNatClampNeg < 0
  · rw [if_pos hc] at hr2
    simp only [if_pos hc]
    exact kn B X r hr2 H locs ls hP hS hl
  · rw [if_neg hc] at hr2
    simp only [if_neg hc]
    exact ks B X r hr2 H locs ls hP hS hl
def nvE (E : Nat → Nat) (x : Option Nat) : Value := match x with
  | none => .null
  | some k => .ref (E k)
def cvE (E : Nat → Nat) : Option Nat × Mem → Out := fun r => (.inr (some (nvE E r.1)), r.2)
theorem g_aretES {E : Nat → Nat} {k : Nat} {rt : FieldType} (hrt : (∃ n, rt = .object n) ∨ ∃ t, rt = .array t) (hr0 : ret = some rt) (d : decode cc pc = .ok (.areturn, 1)) : G p l e s m args below meth c F Lc cc nL own ret Ω (cvE E) (some (some k, M)) pc L [.ref (E k)] M := e_a _ (Or.inr ⟨_, rfl⟩) hrt (fun r h => by cases h; rfl) hr0 d
theorem g_aretEN {E : Nat → Nat} {rt : FieldType} (hrt : (∃ n, rt = .object n) ∨ ∃ t, rt = .array t) (hr0 : ret = some rt) (d : decode cc pc = .ok (.areturn, 1)) : G p l e s m args below meth c F Lc cc nL own ret Ω (cvE E) (some (none, M)) pc L [.null] M := e_a _ (Or.inl rfl) hrt (fun r h => by cases h; rfl) hr0 d
theorem g_cVE {E : Nat → Nat} {y : MethodName} {cc' : ByteArray} {nL' : Nat} {ret' : Option FieldType} {F' Lc' idx : Nat} (o : Nat) (As : List Value) (st : List Value) {stk : List Value} {C : String} {T : u_T} {N ci : Nat} {ds : List (Option Value)} {f : Option (Option Nat × Mem)} {kn : Mem → Option β} {ks : Nat → Mem → Option β} (hC : ∀ r, f = some r → Ct l y (.code y cc' nL' ret') F' Lc' Ω (.ref (wA Ω o) :: As) M (cvE E r)) (d : decode cc pc = .ok (.invokevirtual idx, 3)) (hU : uw_V own idx C y (.code y cc' nL' ret')) (hyc : y.cls = C) (hy : yOk y As.length) (hR : F' + 1 ≤ F ∧ 8 + (nL' + 11) + Lc' ≤ Lc) (ho : o < wN Ω) (hc : wC Ω o = oc ci ds) (hcl : CL[ci]? = some (C, T, N)) (hw : (st.map fun v => v.category).sum ≤ 8) (hst : stk = As.reverse ++ .ref (wA Ω o) :: st) (n : Nat) (hn : pc + 3 = n) (k0 : ∀ M, G p l e s m args below meth c F Lc cc nL own ret Ω cv (kn M) n L (.null :: st) M) (k1 : ∀ a M, G p l e s m args below meth c F Lc cc nL own ret Ω cv (ks a M) n L (.ref (E a) :: st) M) : G p l e s m args below meth c F Lc cc nL own ret Ω cv (cln f kn ks) pc L stk M := fun B X r hr H locs ls hP hS hl => by
  subst hn
  rcases cln_inv hr with ⟨M', hf, hb⟩ | ⟨a, M', hf, hb⟩
  · exact call_V B (hC _ hf) d hU hyc hy hR ho hc hcl hw hst hP hS hl (fun H1 locs1 hP1 hS1 => k0 M' B X r hb H1 locs1 ls hP1 hS1 hl)
  · exact call_V B (hC _ hf) d hU hyc hy hR ho hc hcl hw hst hP hS hl (fun H1 locs1 hP1 hS1 => k1 a M' B X r hb H1 locs1 ls hP1 hS1 hl)

/-- a constant's number -/
theorem c_ordinal {E K : Nat → Nat} {t0 t1 : Nat} (hO : OkW Ω) (hE : EnOk Ω E K t0 t1) (k0 : Nat) (hk : k0 < 6) : ∀ r, some (nI k0) = some r → Ct l yJx29ce0_ordinal_8abf5 (.code yJx29ce0_ordinal_8abf5 cJx29ce0_ordinal_8abf5 1 (some .int)) 0 0 Ω [.ref (E k0)] M (cpI M r) := by
  refine ofGF [(0, .ref (E k0))] hO (by decide +kernel) rfl (Nat.le_of_ble_eq_true rfl) rfl (fun _ => ⟨_, _, rfl⟩) ?_
  intro p e s m args below meth c
  refine g_aload_n 0 rfl rfl 1 rfl dJx29ce0_ordinal_8abf5_0 ?_
  refine s_getf (fun U hU => ((hE U hU).1 k0 hk).2.2.2) wf_Jx29ce0_7 rfl 4 rfl dJx29ce0_ordinal_8abf5_1 ?_
  exact p_iret rfl dJx29ce0_ordinal_8abf5_4
theorem e_ord {E K : Nat → Nat} {t0 t1 : Nat} (hE : EnOk Ω E K t0 t1) (k0 : Nat) (hk : k0 < 6) (st : List Value) {stk : List Value} {bd : Int32 → Option β} (hown : own = RX9) (d : decode cc pc = .ok (.invokevirtual 406, 3)) (hR : 1 ≤ F ∧ 20 ≤ Lc) (hw : (st.map fun v => v.category).sum ≤ 8) (hst : stk = .ref (E k0) :: st) (n : Nat) (hn : pc + 3 = n) (k : ∀ a, G p l e s m args below meth c F Lc cc nL own ret Ω cv (bd a) n L (.int a :: st) M) : G p l e s m args below meth c F Lc cc nL own ret Ω cv (clp (some (nI k0)) bd) pc L stk M := fun B X r hr H locs ls hP hS hl => by
  subst hn; subst hown
  obtain ⟨a, hf, hb⟩ := clp_inv hr
  have hrec : ∃ cell : Cell, H[E k0]? = some cell ∧ cell.vm.isStatics = false ∧ s.vm.findClass "SignalRoad$Word" = some cell.cls := by
    obtain ⟨cell, h1, h2, h3, -⟩ := ((hE s B.2.2.2.2.2.2.1).1 k0 hk).1.kept hS.2.1
    exact ⟨cell, h1, h2, h3⟩
  have hM : ∀ sz, Met l yJx29ce0_ordinal_8abf5 (.code yJx29ce0_ordinal_8abf5 cJx29ce0_ordinal_8abf5 1 (some .int) :: UW) (Rm 0 0 false) (PreC Ω [.ref (E k0)] M sz) (Qv Ω (some (.int a)) M sz) 0 0 (AA Ω sz) := c_ordinal (l := l) (M := M) B.2.2.2.2.2.2.2.2.2 hE k0 hk a hf
  have hG : GoodIn UW (va_wsU RX9 406 "SignalRoad$Word" "java/lang/Enum" yW_ordinal yJx29ce0_ordinal_8abf5 (.code yJx29ce0_ordinal_8abf5 cJx29ce0_ordinal_8abf5 1 (some .int) :: UW)) := by
    refine uw_self (fun w hw => ?_)
    simp only [va_wsU, List.mem_append, List.mem_cons, List.not_mem_nil, or_false] at hw
    rcases hw with (rfl | rfl | rfl | rfl | rfl) | (rfl | hw)
    · exact wk_X9_406
    · exact wsm_ord
    · exact wsel_ord
    · exact wi_ord
    · exact wn_enum
    · exact wc_ord
    · exact hw
  exact core_call (va_runU (As := []) (rest := st) ⟨B.1, B.2.1, B.2.2.1, B.2.2.2.1, B.2.2.2.2.1⟩ (hM H.size) (va_cwU 0 B.2.2.2.2.1 hG rfl rfl rfl rfl ⟨by decide +kernel, by decide +kernel, by decide +kernel⟩ hR) ⟨pre_blind B.2.2.2.2.2.2.2.2.2, hrec, fun U hU hW => ⟨rfl, by rw [hU], ok_pre B hP hS hU hW⟩⟩ rfl rfl hl.1 (by rw [hst]; rfl) (lv_room hw) d ⟨Nat.zero_le _, Nat.zero_le _⟩) hS (fun H1 locs1 hP1 hS1 => k a B X r hb H1 locs1 ls hP1 hS1 hl)
end GE
