section GT
variable {p : Program} {l : Launch} {e : Env} {s : State} {m : MethodId} {args : Array Value} {below : List Frame} {meth : Method} {c : Code} {F Lc : Nat} {cc : ByteArray} {nL : Nat} {own : String} {ret : Option FieldType} {Ω : Wd} {β : Type} {cv : β → Out} {b : Option β} {pc : Nat} {L : List (Nat × Value)} {st : List Value} {M : Mem}
/-- the string constants: class, entry, text -/
def SW : List (String × Nat × String) := [("SignalRoad", 416, "there is no such part or index"), ("SignalRoad", 418, "an argument or the text is not a valid one"), ("SignalRoad", 420, "this is not possible in the present state"), ("SignalRoad", 424, "this is refused, and the reason is kept"), ("SignalRoad", 429, "there is nothing of this kind"), ("SignalRoad", 413, "there is no such junction"), ("SignalRoad", 150, "what is not 0 to 7"), ("SignalRoad", 329, "no second has passed"), ("SignalRoad", 336, "no request was served"), ("SignalRoad", 357, "a command of the text cannot be carried out"), ("SignalRoad$Report", 24, "junction "), ("SignalRoad$Report", 34, " at "), ("SignalRoad$Report", 39, ": plan "), ("SignalRoad$Report", 44, ", second "), ("SignalRoad$Report", 46, "on"), ("SignalRoad$Report", 54, ", none "), ("SignalRoad$Report", 56, ", "), ("SignalRoad$Report", 58, " "), ("SignalRoad$Report", 52, "off"), ("SignalRoadModel", 245, "green:offset:press:run:change:road:"), ("SignalRoadModel", 286, "junction "), ("SignalRoadModel", 288, " at "), ("SignalRoadModel", 290, ": plan "), ("SignalRoadModel", 292, ", second "), ("SignalRoadModel", 294, "on"), ("SignalRoadModel", 277, ", "), ("SignalRoadModel", 282, "none "), ("SignalRoadModel", 284, " "), ("SignalRoadModel", 300, "off"), ("SignalRoad$Word", 50, "green"), ("SignalRoad$Word", 56, "offset"), ("SignalRoad$Word", 59, "press"), ("SignalRoad$Word", 62, "run"), ("SignalRoad$Word", 65, "change"), ("SignalRoad$Word", 68, "road")]
/-- what a throw asks of the world -/
def ThrOk (Ω : Wd) : Prop := ∀ U : State, wX Ω U → (∀ q ∈ SW, ∃ sa : Nat, vk_R q.1 q.2.1 q.2.2 sa U) ∧ vx_Zq Bundle.tN "UNASSIGNED_STACK" Bundle.steD (AA Ω U.heap.size) U U.heap ∧ vx_Zq Bundle.tN "SUPPRESSED_SENTINEL" Bundle.listD (AA Ω U.heap.size) U U.heap
def hatOk (own : String) (ic : Nat) (cls : String) (names : List String) : Bool := (vx_atS own ic cls names).all (fun w => (goodWord w && decide (w ∈ lw_tbl)) || decide (w ∈ NW))
theorem hat_of (B : Bd p s m args meth c cc nL own ret Ω) {ic : Nat} {cls : String} {names : List String} (h : hatOk own ic cls names = true) : ∀ w ∈ vx_atS own ic cls names, w.before args s = true := by
  intro w hw
  have h1 := List.all_eq_true.mp h w hw
  simp only [Bool.or_eq_true, Bool.and_eq_true, decide_eq_true_eq] at h1
  rcases h1 with h1 | h1
  · exact B.2.2.2.2.1 w (uw_mem h1.2 h1.1)
  · have h2 := B.2.2.2.2.2.2.2.2.2.2.2.2 s B.2.2.2.2.2.2.1 w h1
    refine va_Nw.use ?_ h2
    have h3 := (List.mem_filter.mp h1).2
    cases w <;> first | rfl | cases h3
def gdOk (own : String) (ik ic : Nat) (cls : String) (names : List String) : Bool := (Cond.classLink own ik cls :: Cond.initialized cls :: vx_atS own ic cls names).all vx_ot
theorem gt_x {R : Room} {H : Heap} {locs : List Loc} {k : Nat} (hP : va_P (wG Ω) CL (wd Ω M) H) (hS : va_S (AA Ω s.heap.size) s.heap H locs) (hO : OkW Ω) : ∀ t : State, s.vm.Alike t.vm → H.size ≤ t.heap.size → (∀ q : Nat, q < H.size → t.heap[q]? = H[q]?) → Xv Ω k M s.heap.size (exN k) s t := by
  intro t _ h1 h2
  refine ⟨rfl, hP.kept (fun i q hq => h2 _ (hP i q hq).lt), ⟨Nat.le_trans hS.1 h1, fun q hq hn => ?_⟩⟩
  rw [h2 q (Nat.lt_of_lt_of_le hq hS.1)]
  exact hS.2.1 q hq hn
theorem g_throw {γ : Type} {cx : γ → Out} {r0 : γ} (hl0 : l.stackTraces = false) (hT : ThrOk Ω) (kx ik is ic : Nat) (text : String) (names : List String) (hcls : Bundle.fit (exN kx) = true) (hnames : ∀ n ∈ names, Bundle.fit n = true) (hk : Cond.classLink own ik (exN kx) ∈ UW) (hini : Cond.initialized (exN kx) ∈ UW) (hs : (own, is, text) ∈ SW) (hat : hatOk own ic (exN kx) names = true) (hgd : gdOk own ik ic (exN kx) names = true)
    (d0 : decode cc pc = .ok (.new ik, 3)) (d3 : decode cc (pc + 3) = .ok (.dup, 1)) (d4 : decode cc (pc + 4) = .ok (.ldc is, 2)) (d6 : decode cc (pc + 6) = .ok (.invokespecial ic, 3)) (d9 : decode cc (pc + 9) = .ok (.athrow, 1)) (hF : names.length + 3 < F) (hLc : (st.map fun v => v.category).sum + (13 * (names.length + 1) + 43) ≤ Lc) (hcx : cx r0 = (.inl kx, M)) : G p l e s m args below meth c F Lc cc nL own ret Ω cx (some r0) pc L st M := fun B X r hr H locs ls hP hS hl => by
  cases hr
  rw [hcx]
  obtain ⟨t1, t2, t3⟩ := hT s B.2.2.2.2.2.2.1
  obtain ⟨sa, t4⟩ := t1 _ hs
  exact vx_throwS (sa := sa) B.1 B.2.1 hl0 B.2.2.2.1 hcls hnames (B.2.2.2.2.1 _ hk) (B.2.2.2.2.1 _ hini) t4 (hat_of B hat) (List.all_eq_true.mp hgd) t2 t3 hS (by rw [B.2.2.1]; exact hl.1) d0 d3 d4 d6 d9 (fun x hx => absurd hx (fun h => X x h)) hF hLc (Nat.le_refl 1) (Nat.le_refl 6) B.2.2.2.2.2.2.2.1 (gt_x (R := Rm F Lc true) hP hS B.2.2.2.2.2.2.2.2.2) hS.2.2 (Nat.le_refl 1) (Nat.le_refl 6)
theorem g_throwW {γ : Type} {cx : γ → Out} {r0 : γ} (hl0 : l.stackTraces = false) (hT : ThrOk Ω) (kx ik is ic : Nat) (text : String) (names : List String) (hcls : Bundle.fit (exN kx) = true) (hnames : ∀ n ∈ names, Bundle.fit n = true) (hk : Cond.classLink own ik (exN kx) ∈ UW) (hini : Cond.initialized (exN kx) ∈ UW) (hs : (own, is, text) ∈ SW) (hat : hatOk own ic (exN kx) names = true) (hgd : gdOk own ik ic (exN kx) names = true)
    (d0 : decode cc pc = .ok (.new ik, 3)) (d3 : decode cc (pc + 3) = .ok (.dup, 1)) (d4 : decode cc (pc + 4) = .ok (.ldc_w is, 3)) (d7 : decode cc (pc + 7) = .ok (.invokespecial ic, 3)) (d10 : decode cc (pc + 10) = .ok (.athrow, 1)) (hF : names.length + 3 < F) (hLc : (st.map fun v => v.category).sum + (13 * (names.length + 1) + 43) ≤ Lc) (hcx : cx r0 = (.inl kx, M)) : G p l e s m args below meth c F Lc cc nL own ret Ω cx (some r0) pc L st M := fun B X r hr H locs ls hP hS hl => by
  cases hr
  rw [hcx]
  obtain ⟨t1, t2, t3⟩ := hT s B.2.2.2.2.2.2.1
  obtain ⟨sa, t4⟩ := t1 _ hs
  exact vx_throwSW (sa := sa) B.1 B.2.1 hl0 B.2.2.2.1 hcls hnames (B.2.2.2.2.1 _ hk) (B.2.2.2.2.1 _ hini) t4 (hat_of B hat) (List.all_eq_true.mp hgd) t2 t3 hS (by rw [B.2.2.1]; exact hl.1) d0 d3 d4 d7 d10 (fun x hx => absurd hx (fun h => X x h)) hF hLc (Nat.le_refl 1) (Nat.le_refl 6) B.2.2.2.2.2.2.2.1 (gt_x (R := Rm F Lc true) hP hS B.2.2.2.2.2.2.2.2.2) hS.2.2 (Nat.le_refl 1) (Nat.le_refl 6)
end GT

def xNm : List String := ["java/lang/RuntimeException", "java/lang/Exception"]
theorem xNm_ok : ∀ n ∈ xNm, Bundle.fit n = true := by decide +kernel
theorem xa_0 : hatOk RX9 415 (exN 0) xNm = true := by decide +kernel
theorem xg_0 : gdOk RX9 411 415 (exN 0) xNm = true := by decide +kernel
theorem xf_0 : Bundle.fit (exN 0) = true := by decide +kernel
theorem xa_1 : hatOk RX9 152 (exN 1) xNm = true := by decide +kernel
theorem xg_1 : gdOk RX9 148 152 (exN 1) xNm = true := by decide +kernel
theorem xf_1 : Bundle.fit (exN 1) = true := by decide +kernel
theorem xa_2 : hatOk RX9 359 (exN 2) xNm = true := by decide +kernel
theorem xg_2 : gdOk RX9 355 359 (exN 2) xNm = true := by decide +kernel
theorem xf_2 : Bundle.fit (exN 2) = true := by decide +kernel
theorem xa_3 : hatOk RX9 426 (exN 3) xNm = true := by decide +kernel
theorem xg_3 : gdOk RX9 422 426 (exN 3) xNm = true := by decide +kernel
theorem xf_3 : Bundle.fit (exN 3) = true := by decide +kernel
theorem xa_5 : hatOk RX9 331 (exN 5) xNm = true := by decide +kernel
theorem xg_5 : gdOk RX9 327 331 (exN 5) xNm = true := by decide +kernel
theorem xf_5 : Bundle.fit (exN 5) = true := by decide +kernel
section GT2
variable {p : Program} {l : Launch} {e : Env} {s : State} {m : MethodId} {args : Array Value} {below : List Frame} {meth : Method} {c : Code} {F Lc : Nat} {cc : ByteArray} {nL : Nat} {own : String} {ret : Option FieldType} {Ω : Wd} {β : Type} {cv : β → Out} {b : Option β} {pc : Nat} {L : List (Nat × Value)} {st : List Value} {M : Mem}
theorem nk_0 : Cond.classLink RX9 427 nsN ∈ UW := tbu (tb2 (List.mem_of_getElem? (i := 216) rfl)) rfl
theorem nk_1 : Cond.initialized nsN ∈ UW := tbu (tb1 (List.mem_of_getElem? (i := 18) rfl)) rfl
def nsOk : Bool := ((nsA RX9 431).filter vx_no).all (fun w => (goodWord w && decide (w ∈ lw_tbl)) || decide (w ∈ NW))
theorem nk_2 : nsOk = true := by decide +kernel
theorem nk_3 : (Cond.classLink RX9 427 nsN :: Cond.initialized nsN :: (nsA RX9 431).filter vx_no).all vx_ot = true := by decide +kernel
theorem natk_of (B : Bd p s m args meth c cc nL RX9 ret Ω) (h : nsOk = true) : ∀ w ∈ (nsA RX9 431).filter vx_no, w.before args s = true := by
  intro w hw
  have h1 := List.all_eq_true.mp h w hw
  simp only [Bool.or_eq_true, Bool.and_eq_true, decide_eq_true_eq] at h1
  rcases h1 with h1 | h1
  · exact B.2.2.2.2.1 w (uw_mem h1.2 h1.1)
  · have h2 := B.2.2.2.2.2.2.2.2.2.2.2.2 s B.2.2.2.2.2.2.1 w h1
    refine va_Nw.use ?_ h2
    have h3 := (List.mem_filter.mp h1).2
    cases w <;> first | rfl | cases h3
/-- 'throw new NoSuchElementException(text)': its constructor calls by entry 13 -/
theorem g_throwN {γ : Type} {cx : γ → Out} {r0 : γ} (hl0 : l.stackTraces = false) (hT : ThrOk Ω) (is : Nat) (text : String) (hs : (RX9, is, text) ∈ SW) (hown0 : own = RX9)
    (d0 : decode cc pc = .ok (.new 427, 3)) (d3 : decode cc (pc + 3) = .ok (.dup, 1)) (d4 : decode cc (pc + 4) = .ok (.ldc_w is, 3)) (d7 : decode cc (pc + 7) = .ok (.invokespecial 431, 3)) (d10 : decode cc (pc + 10) = .ok (.athrow, 1)) (hF : 5 < F) (hLc : (st.map fun v => v.category).sum + 82 ≤ Lc) (hcx : cx r0 = (.inl 4, M)) : G p l e s m args below meth c F Lc cc nL own ret Ω cx (some r0) pc L st M := fun B X r hr H locs ls hP hS hl => by
  cases hr
  rw [hcx]
  subst hown0
  obtain ⟨t1, t2, t3⟩ := hT s B.2.2.2.2.2.2.1
  obtain ⟨sa, t4⟩ := t1 _ hs
  exact ns_throw (sa := sa) B.1 B.2.1 hl0 B.2.2.2.1 (B.2.2.2.2.1 _ nk_0) (B.2.2.2.2.1 _ nk_1) t4 (natk_of B nk_2) (List.all_eq_true.mp nk_3) t2 t3 hS (by rw [B.2.2.1]; exact hl.1) d0 d3 d4 d7 d10 (fun x hx => absurd hx (fun h => X x h)) hF hLc (Nat.le_refl 1) (Nat.le_refl 6) B.2.2.2.2.2.2.2.1 (gt_x (R := Rm F Lc true) (k := 4) hP hS B.2.2.2.2.2.2.2.2.2) hS.2.2 (Nat.le_refl 1) (Nat.le_refl 6)
end GT2
