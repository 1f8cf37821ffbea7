section GL
variable {p : Program} {l : Launch} {e : Env} {s : State} {m : MethodId} {args : Array Value} {below : List Frame} {meth : Method} {c : Code} {F Lc : Nat} {cc : ByteArray} {nL : Nat} {own : String} {ret : Option FieldType} {Ω : Wd} {β : Type} {cv : β → Out} {b : Option β} {pc : Nat} {L : List (Nat × Value)} {st : List Value} {M : Mem}
/-! where the system's cells lie -/
def IO (Ω : Wd) (o ci : Nat) (ds : List (Option Value)) : Prop := o < wN Ω ∧ wC Ω o = oc ci ds
def IA (Ω : Wd) (o N : Nat) : Prop := o < wN Ω ∧ ∃ (cA : ClassId) (t0 : Nat), wC Ω o = ac cA N ∧ (wT Ω)[t0]? = some (cA, .int)
def CA (Ω : Wd) (o N : Nat) : Prop := o < wN Ω ∧ ∃ (cA : ClassId) (t0 : Nat), wC Ω o = ac cA N ∧ (wT Ω)[t0]? = some (cA, .char)
def IR (Ω : Wd) (o N : Nat) (C : String) (f : Nat → Nat) : Prop := o < wN Ω ∧ ∃ (cA : ClassId) (t0 : Nat), wC Ω o = rc cA N (fun k => some (wA Ω (f k))) ∧ (wT Ω)[t0]? = some (cA, .object C)
def isS (t : Nat) : Prop := ∃ a, a < 11 ∧ t = 1 + 42 * a
def isJ (j : Nat) : Prop := ∃ a k, a < 11 ∧ k < 4 ∧ j = 3 + 42 * a + 10 * k
def rf (Ω : Wd) (o : Nat) : Option Value := some (.ref (wA Ω o))
def dsJ (Ω : Wd) (j : Nat) : List (Option Value) := [none, none, none, none, none, none, none, none, none, rf Ω (j + 1), rf Ω (j + 2), rf Ω (j + 3), rf Ω (j + 4), rf Ω (j + 5), rf Ω (j + 6), rf Ω (j + 7), rf Ω (j + 8), rf Ω (j + 9)]
def dsS (Ω : Wd) (t : Nat) : List (Option Value) := [none, none, none, none, rf Ω (t + 1)]
def dsH (Ω : Wd) : List (Option Value) := [none, none, rf Ω 464]
def dsP (Ω : Wd) : List (Option Value) := [none, rf Ω 466, rf Ω 467, rf Ω 468, rf Ω 469]
def dsT (Ω : Wd) : List (Option Value) := [rf Ω 471]
def dsC (Ω : Wd) : List (Option Value) := [none, none, none, none, rf Ω 473, rf Ω 474, rf Ω 475, rf Ω 476]
def dsR (Ω : Wd) : List (Option Value) := [none, rf Ω 478]
def dsX (Ω : Wd) : List (Option Value) := [rf Ω 1, rf Ω 43, rf Ω 85, rf Ω 463, rf Ω 465, rf Ω 470, rf Ω 472, rf Ω 477, none, none, none]
/-- the component's cells: 0 the road; 1 + 42 a the states; 463 .. the rest -/
def LX (Ω : Wd) : Prop :=
  (∀ j, isJ j → IO Ω j 1 (dsJ Ω j) ∧ IA Ω (j + 1) 2 ∧ IA Ω (j + 2) 6 ∧ IA Ω (j + 3) 6 ∧ IA Ω (j + 4) 6 ∧ IA Ω (j + 5) 6 ∧ IA Ω (j + 6) 18 ∧ IA Ω (j + 7) 36 ∧ IA Ω (j + 8) 12 ∧ IA Ω (j + 9) 12) ∧
  (∀ t, isS t → IO Ω t 5 (dsS Ω t) ∧ IR Ω (t + 1) 4 "SignalRoad$Junction" (fun k => t + 2 + 10 * k)) ∧
  (IO Ω 463 0 (dsH Ω) ∧ IR Ω 464 8 "SignalRoad$State" (fun k => 127 + 42 * k)) ∧
  (IO Ω 465 2 (dsP Ω) ∧ IA Ω 466 6 ∧ IA Ω 467 6 ∧ IA Ω 468 6 ∧ IA Ω 469 6) ∧
  (IO Ω 470 6 (dsT Ω) ∧ IA Ω 471 120) ∧
  (IO Ω 472 4 (dsC Ω) ∧ CA Ω 473 60 ∧ IA Ω 474 10 ∧ IA Ω 476 50) ∧
  (IO Ω 477 3 (dsR Ω) ∧ CA Ω 478 96) ∧ IO Ω 0 7 (dsX Ω)
theorem lx_J (h : LX Ω) {j : Nat} (hj : isJ j) : IO Ω j 1 (dsJ Ω j) := (h.1 j hj).1
theorem lx_J1 (h : LX Ω) {j : Nat} (hj : isJ j) : IA Ω (j + 1) 2 := (h.1 j hj).2.1
theorem lx_J2 (h : LX Ω) {j : Nat} (hj : isJ j) : IA Ω (j + 2) 6 := (h.1 j hj).2.2.1
theorem lx_J3 (h : LX Ω) {j : Nat} (hj : isJ j) : IA Ω (j + 3) 6 := (h.1 j hj).2.2.2.1
theorem lx_J4 (h : LX Ω) {j : Nat} (hj : isJ j) : IA Ω (j + 4) 6 := (h.1 j hj).2.2.2.2.1
theorem lx_J5 (h : LX Ω) {j : Nat} (hj : isJ j) : IA Ω (j + 5) 6 := (h.1 j hj).2.2.2.2.2.1
theorem lx_J6 (h : LX Ω) {j : Nat} (hj : isJ j) : IA Ω (j + 6) 18 := (h.1 j hj).2.2.2.2.2.2.1
theorem lx_J7 (h : LX Ω) {j : Nat} (hj : isJ j) : IA Ω (j + 7) 36 := (h.1 j hj).2.2.2.2.2.2.2.1
theorem lx_J8 (h : LX Ω) {j : Nat} (hj : isJ j) : IA Ω (j + 8) 12 := (h.1 j hj).2.2.2.2.2.2.2.2.1
theorem lx_J9 (h : LX Ω) {j : Nat} (hj : isJ j) : IA Ω (j + 9) 12 := (h.1 j hj).2.2.2.2.2.2.2.2.2
theorem lx_S (h : LX Ω) {t : Nat} (ht : isS t) : IO Ω t 5 (dsS Ω t) := (h.2.1 t ht).1
theorem lx_S1 (h : LX Ω) {t : Nat} (ht : isS t) : IR Ω (t + 1) 4 "SignalRoad$Junction" (fun k => t + 2 + 10 * k) := (h.2.1 t ht).2
theorem lx_H (h : LX Ω) : IO Ω 463 0 (dsH Ω) := h.2.2.1.1
theorem lx_H1 (h : LX Ω) : IR Ω 464 8 "SignalRoad$State" (fun k => 127 + 42 * k) := h.2.2.1.2
theorem lx_P (h : LX Ω) : IO Ω 465 2 (dsP Ω) := h.2.2.2.1.1
theorem lx_P1 (h : LX Ω) : IA Ω 466 6 := h.2.2.2.1.2.1
theorem lx_P2 (h : LX Ω) : IA Ω 467 6 := h.2.2.2.1.2.2.1
theorem lx_P3 (h : LX Ω) : IA Ω 468 6 := h.2.2.2.1.2.2.2.1
theorem lx_P4 (h : LX Ω) : IA Ω 469 6 := h.2.2.2.1.2.2.2.2
theorem lx_T (h : LX Ω) : IO Ω 470 6 (dsT Ω) := h.2.2.2.2.1.1
theorem lx_T1 (h : LX Ω) : IA Ω 471 120 := h.2.2.2.2.1.2
theorem lx_C (h : LX Ω) : IO Ω 472 4 (dsC Ω) := h.2.2.2.2.2.1.1
theorem lx_C1 (h : LX Ω) : CA Ω 473 60 := h.2.2.2.2.2.1.2.1
theorem lx_C2 (h : LX Ω) : IA Ω 474 10 := h.2.2.2.2.2.1.2.2.1
theorem lx_C4 (h : LX Ω) : IA Ω 476 50 := h.2.2.2.2.2.1.2.2.2
theorem lx_R (h : LX Ω) : IO Ω 477 3 (dsR Ω) := h.2.2.2.2.2.2.1.1
theorem lx_R1 (h : LX Ω) : CA Ω 478 96 := h.2.2.2.2.2.2.1.2
theorem lx_X (h : LX Ω) : IO Ω 0 7 (dsX Ω) := h.2.2.2.2.2.2.2
theorem isJ_S {t : Nat} {i : Int32} (ht : isS t) (hi : inb i 4 = true) : isJ (t + 2 + 10 * i.toNatClampNeg) := by
  obtain ⟨a, ha, rfl⟩ := ht
  have h := inb_in hi
  exact ⟨a, i.toNatClampNeg, ha, by rcases Nat.lt_or_ge i.toNatClampNeg 4 with q | q; exact q; exact absurd (Or.inr q) h, by omega⟩
theorem isS_H {i : Int32} (hi : inb i 8 = true) : isS (127 + 42 * i.toNatClampNeg) := by
  have h := inb_in hi
  refine ⟨3 + i.toNatClampNeg, ?_, by omega⟩
  rcases Nat.lt_or_ge i.toNatClampNeg 8 with q | q
  · omega
  · exact absurd (Or.inr q) h
theorem isS_1 : isS 1 := ⟨0, by decide, rfl⟩
theorem isS_43 : isS 43 := ⟨1, by decide, rfl⟩
theorem isS_85 : isS 85 := ⟨2, by decide, rfl⟩
/-- the reference's cells: 0 the model, 1 .. 11 its arrays -/
def dsM (Ω : Wd) : List (Option Value) := [none, rf Ω 1, rf Ω 2, none, rf Ω 3, none, rf Ω 4, rf Ω 5, none, none, none, none, rf Ω 6, none, rf Ω 7, rf Ω 8, rf Ω 9, rf Ω 10, rf Ω 11, none, none, none]
def LM (Ω : Wd) : Prop := IO Ω 0 8 (dsM Ω) ∧ IA Ω 1 490 ∧ IA Ω 2 3920 ∧ IA Ω 3 490 ∧ IA Ω 4 490 ∧ IA Ω 5 60 ∧ IA Ω 6 120 ∧ IA Ω 7 5 ∧ IA Ω 8 6 ∧ IA Ω 9 6 ∧ IA Ω 10 6 ∧ IA Ω 11 120
theorem lm_0 (h : LM Ω) : IO Ω 0 8 (dsM Ω) := h.1
theorem lm_1 (h : LM Ω) : IA Ω 1 490 := h.2.1
theorem lm_2 (h : LM Ω) : IA Ω 2 3920 := h.2.2.1
theorem lm_3 (h : LM Ω) : IA Ω 3 490 := h.2.2.2.1
theorem lm_4 (h : LM Ω) : IA Ω 4 490 := h.2.2.2.2.1
theorem lm_5 (h : LM Ω) : IA Ω 5 60 := h.2.2.2.2.2.1
theorem lm_6 (h : LM Ω) : IA Ω 6 120 := h.2.2.2.2.2.2.1
theorem lm_7 (h : LM Ω) : IA Ω 7 5 := h.2.2.2.2.2.2.2.1
theorem lm_8 (h : LM Ω) : IA Ω 8 6 := h.2.2.2.2.2.2.2.2.1
theorem lm_9 (h : LM Ω) : IA Ω 9 6 := h.2.2.2.2.2.2.2.2.2.1
theorem lm_10 (h : LM Ω) : IA Ω 10 6 := h.2.2.2.2.2.2.2.2.2.2.1
theorem lm_11 (h : LM Ω) : IA Ω 11 120 := h.2.2.2.2.2.2.2.2.2.2.2
/-! rows by where a cell lies -/
theorem w_iald {o N : Nat} (h : IA Ω o N) {i : Int32} (n : Nat) (hn : pc + 1 = n) (d : decode cc pc = .ok (.iaload, 1)) (k : G p l e s m args below meth c F Lc cc nL own ret Ω cv b n L (.int (M o i.toNatClampNeg) :: st) M) : G p l e s m args below meth c F Lc cc nL own ret Ω cv (grd (inb i N) b) pc L (.int i :: .ref (wA Ω o) :: st) M := by
  obtain ⟨h1, cA, t0, h2, h3⟩ := h
  exact g_iald o h1 h2 t0 h3 n hn d k
theorem w_iast {o N : Nat} (h : IA Ω o N) {i x : Int32} {bd : Mem → Option β} (n : Nat) (hn : pc + 1 = n) (d : decode cc pc = .ok (.iastore, 1)) (k : ∀ M, G p l e s m args below meth c F Lc cc nL own ret Ω cv (bd M) n L st M) : G p l e s m args below meth c F Lc cc nL own ret Ω cv (grd (inb i N) (bnd (mset M o i.toNatClampNeg x) bd)) pc L (.int x :: .int i :: .ref (wA Ω o) :: st) M := by
  obtain ⟨h1, cA, t0, h2, h3⟩ := h
  exact g_iast o h1 h2 t0 h3 n hn d k
theorem w_cald {o N : Nat} (h : CA Ω o N) {i : Int32} (n : Nat) (hn : pc + 1 = n) (d : decode cc pc = .ok (.caload, 1)) (k : G p l e s m args below meth c F Lc cc nL own ret Ω cv b n L (.int (M o i.toNatClampNeg) :: st) M) : G p l e s m args below meth c F Lc cc nL own ret Ω cv (grd (inb i N) b) pc L (.int i :: .ref (wA Ω o) :: st) M := by
  obtain ⟨h1, cA, t0, h2, h3⟩ := h
  exact g_cald o h1 h2 t0 h3 n hn d k
theorem w_cast {o N : Nat} (h : CA Ω o N) {i x : Int32} {bd : Mem → Option β} (n : Nat) (hn : pc + 1 = n) (d : decode cc pc = .ok (.castore, 1)) (k : ∀ M, G p l e s m args below meth c F Lc cc nL own ret Ω cv (bd M) n L st M) : G p l e s m args below meth c F Lc cc nL own ret Ω cv (grd (inb i N) (bnd (mset M o i.toNatClampNeg (vp_nar .char x)) bd)) pc L (.int x :: .int i :: .ref (wA Ω o) :: st) M := by
  obtain ⟨h1, cA, t0, h2, h3⟩ := h
  exact g_cast o h1 h2 t0 h3 n hn d k
theorem w_aald {o N : Nat} {C : String} {f : Nat → Nat} (h : IR Ω o N C f) {i : Int32} (n : Nat) (hn : pc + 1 = n) (d : decode cc pc = .ok (.aaload, 1)) (k : inb i N = true → G p l e s m args below meth c F Lc cc nL own ret Ω cv b n L (.ref (wA Ω (f i.toNatClampNeg)) :: st) M) : G p l e s m args below meth c F Lc cc nL own ret Ω cv (grd (inb i N) b) pc L (.int i :: .ref (wA Ω o) :: st) M := by
  obtain ⟨h1, cA, t0, h2, h3⟩ := h
  exact g_aald o h1 h2 t0 h3 _ rfl n hn d k
theorem w_alen {o N : Nat} (h : IA Ω o N) (v : Int32) (hv : Int32.ofNat N = v) (n : Nat) (hn : pc + 1 = n) (d : decode cc pc = .ok (.arraylength, 1)) (k : G p l e s m args below meth c F Lc cc nL own ret Ω cv b n L (.int v :: st) M) : G p l e s m args below meth c F Lc cc nL own ret Ω cv b pc L (.ref (wA Ω o) :: st) M := fun B X r hr H locs ls hP hS hl => by
  subst hn
  obtain ⟨h1, cA, t0, h2, h3⟩ := h
  exact va_alen B.1 B.2.1 B.2.2.2.2.2.1 hP o t0 (wd_arr h1 h2) h3 hv d (k B X r hr H locs ls hP hS hl)
theorem w_get {ci : Nat} {ds : List (Option Value)} {o : Nat} (h : IO Ω o ci ds) {C : String} {T : u_T} {N : Nat} (hcl : CL[ci]? = some (C, T, N)) (hin : ∀ w ∈ u_ws C T N, w ∈ UW) (k0 : Nat) (hk : k0 < N) {idx : Nat} (hlk : Cond.fieldLink own idx (T k0).1 (T k0).2.1 (T k0).2.2.1 ∈ UW) (hd : ds[k0]? = some none) (n : Nat) (hn : pc + 3 = n) (d : decode cc pc = .ok (.getfield idx, 3)) (k : G p l e s m args below meth c F Lc cc nL own ret Ω cv b n L (.int (M o k0) :: st) M) : G p l e s m args below meth c F Lc cc nL own ret Ω cv b pc L (.ref (wA Ω o) :: st) M := g_get o h.1 h.2 hcl hin k0 hk hlk hd n hn d k
theorem w_getR {ci : Nat} {ds : List (Option Value)} {o : Nat} (h : IO Ω o ci ds) {C : String} {T : u_T} {N : Nat} (hcl : CL[ci]? = some (C, T, N)) (hin : ∀ w ∈ u_ws C T N, w ∈ UW) (k0 : Nat) (hk : k0 < N) {idx : Nat} (hlk : Cond.fieldLink own idx (T k0).1 (T k0).2.1 (T k0).2.2.1 ∈ UW) (o2 : Nat) (hd : ds[k0]? = some (rf Ω o2)) (n : Nat) (hn : pc + 3 = n) (d : decode cc pc = .ok (.getfield idx, 3)) (k : G p l e s m args below meth c F Lc cc nL own ret Ω cv b n L (.ref (wA Ω o2) :: st) M) : G p l e s m args below meth c F Lc cc nL own ret Ω cv b pc L (.ref (wA Ω o) :: st) M := g_getR o h.1 h.2 hcl hin k0 hk hlk hd n hn d k
theorem w_put {ci : Nat} {ds : List (Option Value)} {o : Nat} (h : IO Ω o ci ds) {C : String} {T : u_T} {N : Nat} (hcl : CL[ci]? = some (C, T, N)) (hin : ∀ w ∈ u_ws C T N, w ∈ UW) (k0 : Nat) (hk : k0 < N) {idx : Nat} (hlk : Cond.fieldLink own idx (T k0).1 (T k0).2.1 (T k0).2.2.1 ∈ UW) (ty0 : Nat → FieldType) (hty : ∀ k, k < N → parseFieldDescriptor (T k).2.2.1 = some (ty0 k)) (hnm : ∀ a, a < N → ∀ b, b < N → a ≠ b → (T a).2.1 ≠ (T b).2.1) (hfin : (T k0).2.2.2 = false) (hd : ds[k0]? = some none) {v : Int32} (hnr : narrow (ty0 k0) (.int v) = .int v) (hft : fits (ty0 k0) (.int v) = true) {bd : Mem → Option β} (n : Nat) (hn : pc + 3 = n) (d : decode cc pc = .ok (.putfield idx, 3)) (k : ∀ M, G p l e s m args below meth c F Lc cc nL own ret Ω cv (bd M) n L st M) : G p l e s m args below meth c F Lc cc nL own ret Ω cv (bnd (mset M o k0 v) bd) pc L (.int v :: .ref (wA Ω o) :: st) M := g_put o h.1 h.2 hcl hin k0 hk hlk ty0 hty hnm hfin hd hnr hft n hn d k
/-- System.arraycopy over int arrays -/
def cok (sp dp k n0 n1 : Int32) : Bool := !(decide (sp < 0) || decide (dp < 0) || decide (k < 0) || decide (n0.toNatClampNeg < sp.toNatClampNeg + k.toNatClampNeg) || decide (n1.toNatClampNeg < dp.toNatClampNeg + k.toNatClampNeg))
theorem w_copy {o o1 N N1 : Nat} (h : IA Ω o N) (h' : IA Ω o1 N1) {idx : Nat} (hlk : Cond.methodLink own idx arraycopyName ∈ UW) (hnat : Cond.native arraycopyName ∈ UW) (hstat : Cond.static arraycopyName ∈ UW) (hini : Cond.initialized "java/lang/System" ∈ UW) {sp dp k : Int32} (h1 : ¬ sp < 0) (h2 : ¬ dp < 0) (h3 : ¬ k < 0) (h4 : sp.toNatClampNeg + k.toNatClampNeg ≤ N) (h5 : dp.toNatClampNeg + k.toNatClampNeg ≤ N1) (hF : 1 ≤ F) (hLc : (st.map fun v => v.category).sum + 18 ≤ Lc) {bd : Mem → Option β} (n : Nat) (hn : pc + 3 = n) (d : decode cc pc = .ok (.invokestatic idx, 3)) (kk : ∀ M, G p l e s m args below meth c F Lc cc nL own ret Ω cv (bd M) n L st M) : G p l e s m args below meth c F Lc cc nL own ret Ω cv (bnd (va_up M o1 (va_cpy (M o) (M o1) sp.toNatClampNeg dp.toNatClampNeg k.toNatClampNeg)) bd) pc L (.int k :: .int dp :: .ref (wA Ω o1) :: .int sp :: .ref (wA Ω o) :: st) M := fun B X r hr H locs ls hP hS hl => by
  subst hn
  obtain ⟨a1, cA, t0, a2, a3⟩ := h
  obtain ⟨b1, cB, t1, b2, b3⟩ := h'
  refine va_copyi B.1 B.2.1 (by rw [B.2.2.1]; exact hl.1.symm) B.2.2.2.1 (B.2.2.2.2.1 _ hlk) (B.2.2.2.2.1 _ hnat) (B.2.2.2.2.1 _ hstat) (B.2.2.2.2.1 _ hini) B.2.2.2.2.2.1 hP (wd_D B.2.2.2.2.2.2.2.2.2 M _) hS o o1 t0 t1 (wd_arr a1 a2) (wd_arr b1 b2) a3 b3 rfl h1 h2 h3 h4 h5 (fun _ _ => rfl) hF hLc d (fun H1 locs1 hP1 _ hS1 => ?_)
  rw [wd_aput b1 b2] at hP1
  exact kk _ B X r hr H1 locs1 ls hP1 hS1 hl
/-- a static method of any class, its link plain -/
def uw_T (own : String) (idx : Nat) (y : MethodName) (c1 : Cond) : Prop := Cond.methodLink own idx y ∈ UW ∧ Cond.static y ∈ UW ∧ Cond.initialized y.cls ∈ UW ∧ c1 ∈ UW
theorem call_T {R : Room} {Q : State → Prop} {y : MethodName} {cc' : ByteArray} {nL' : Nat} {ret' : Option FieldType} {F' Lc' idx : Nat} {As stk : List Value} {v : Option Value} {M' : Mem} {H : Heap} {locs : List Loc} {ls : Array Slot} (B : Bd p s m args meth c cc nL own ret Ω)
    (hM : ∀ sz, Met l y (.code y cc' nL' ret' :: UW) (Rm F' Lc' false) (PreC Ω As M sz) (Qv Ω v M' sz) 0 0 (AA Ω sz)) (d : decode cc pc = .ok (.invokestatic idx, 3)) (hU : uw_T own idx y (.code y cc' nL' ret')) (hy : yOk y As.length) (hR : F' + 1 ≤ R.frames ∧ 8 + (nL' + 11) + Lc' ≤ R.locals) (hw : (st.map fun v => v.category).sum ≤ 8) (hst : stk = As.reverse ++ st)
    (hP : va_P (wG Ω) CL (wd Ω M) H) (hS : va_S (AA Ω s.heap.size) s.heap H locs) (hl : lv_has ls nL L)
    (kk : ∀ (H1 : Heap) (locs1 : List Loc), va_P (wG Ω) CL (wd Ω M') H1 → va_S (AA Ω s.heap.size) s.heap H1 locs1 → W p l e R s m args below meth c H1 locs1 0 0 Q (F0 m (pc + 3) ls (v.toList ++ st))) : W p l e R s m args below meth c H locs 0 0 Q (F0 m pc ls stk) :=
  core_call (va_runS (As := As) (rest := st) ⟨B.1, B.2.1, B.2.2.1, B.2.2.2.1, B.2.2.2.2.1⟩ (hM H.size) ⟨callB_of As.length B.2.2.2.2.1 (uw_c hU.2.2.2) rfl rfl rfl (B.2.2.2.2.1 _ hU.2.2.1) (B.2.2.2.2.1 _ hU.1) hy hR, B.2.2.2.2.1 _ hU.2.1⟩ ⟨pre_blind B.2.2.2.2.2.2.2.2.2, fun U hU hW => ⟨rfl, by rw [hU], ok_pre B hP hS hU hW⟩⟩ rfl rfl hl.1 hst (lv_room hw) d ⟨Nat.zero_le _, Nat.zero_le _⟩) hS kk

theorem p_cTI {y : MethodName} {cc' : ByteArray} {nL' : Nat} {ret' : Option FieldType} {F' Lc' idx : Nat} (As : List Value) (st : List Value) {stk : List Value} {f : Option Int32} {bd : Int32 → Option β} (hC : ∀ r, f = some r → Ct l y (.code y cc' nL' ret') F' Lc' Ω As M (cpI M r)) (d : decode cc pc = .ok (.invokestatic idx, 3)) (hU : uw_T own idx y (.code y cc' nL' ret')) (hy : yOk y As.length) (hR : F' + 1 ≤ F ∧ 8 + (nL' + 11) + Lc' ≤ Lc) (hw : (st.map fun v => v.category).sum ≤ 8) (hst : stk = As.reverse ++ st) (n : Nat) (hn : pc + 3 = n) (k : ∀ a, G p l e s m args below meth c F Lc cc nL own ret Ω cv (bd a) n L (.int a :: st) M) : G p l e s m args below meth c F Lc cc nL own ret Ω cv (clp f bd) pc L stk M := fun B X r hr H locs ls hP hS hl => by
  subst hn
  obtain ⟨a, hf, hb⟩ := clp_inv hr
  exact call_T B (hC _ hf) d hU hy hR hw hst hP hS hl (fun H1 locs1 hP1 hS1 => k a B X r hb H1 locs1 ls hP1 hS1 hl)
theorem p_cTV {y : MethodName} {cc' : ByteArray} {nL' : Nat} {ret' : Option FieldType} {F' Lc' idx : Nat} (As : List Value) (st : List Value) {stk : List Value} {f : Option Unit} {bd : Unit → Option β} (hC : ∀ r, f = some r → Ct l y (.code y cc' nL' ret') F' Lc' Ω As M (cpV M r)) (d : decode cc pc = .ok (.invokestatic idx, 3)) (hU : uw_T own idx y (.code y cc' nL' ret')) (hy : yOk y As.length) (hR : F' + 1 ≤ F ∧ 8 + (nL' + 11) + Lc' ≤ Lc) (hw : (st.map fun v => v.category).sum ≤ 8) (hst : stk = As.reverse ++ st) (n : Nat) (hn : pc + 3 = n) (k : ∀ a, G p l e s m args below meth c F Lc cc nL own ret Ω cv (bd a) n L st M) : G p l e s m args below meth c F Lc cc nL own ret Ω cv (clp f bd) pc L stk M := fun B X r hr H locs ls hP hS hl => by
  subst hn
  obtain ⟨a, hf, hb⟩ := clp_inv hr
  exact call_T B (hC _ hf) d hU hy hR hw hst hP hS hl (fun H1 locs1 hP1 hS1 => k a B X r hb H1 locs1 ls hP1 hS1 hl)
theorem g_cTV {y : MethodName} {cc' : ByteArray} {nL' : Nat} {ret' : Option FieldType} {F' Lc' idx : Nat} (As : List Value) (st : List Value) {stk : List Value} {f : Option (Unit × Mem)} {bd : Unit → Mem → Option β} (hC : ∀ r, f = some r → Ct l y (.code y cc' nL' ret') F' Lc' Ω As M (cvV r)) (d : decode cc pc = .ok (.invokestatic idx, 3)) (hU : uw_T own idx y (.code y cc' nL' ret')) (hy : yOk y As.length) (hR : F' + 1 ≤ F ∧ 8 + (nL' + 11) + Lc' ≤ Lc) (hw : (st.map fun v => v.category).sum ≤ 8) (hst : stk = As.reverse ++ st) (n : Nat) (hn : pc + 3 = n) (k : ∀ a M, G p l e s m args below meth c F Lc cc nL own ret Ω cv (bd a M) n L st M) : G p l e s m args below meth c F Lc cc nL own ret Ω cv (cl f bd) pc L stk M := fun B X r hr H locs ls hP hS hl => by
  subst hn
  obtain ⟨a, M', hf, hb⟩ := cl_inv hr
  exact call_T B (hC _ hf) d hU hy hR hw hst hP hS hl (fun H1 locs1 hP1 hS1 => k a M' B X r hb H1 locs1 ls hP1 hS1 hl)
theorem ts_out {x : Int32} {lo hi : Int} (h : ∀ z : Int, lo ≤ z → z ≤ hi → x.toInt ≠ z) : x.toInt < lo ∨ hi < x.toInt := by
  by_cases a : x.toInt < lo
  · exact Or.inl a
  · by_cases b : hi < x.toInt
    · exact Or.inr b
    · exact absurd rfl (h _ (by omega) (by omega))
theorem ts_ne {x a : Int32} {z : Int} (h : ¬ x = a) (hz : a.toInt = z) : x.toInt ≠ z := fun e => h (Int32.toInt_inj.mp (e.trans hz.symm))
def isJb (o : Nat) : Bool := decide (3 ≤ o) && decide ((o - 3) % 42 % 10 = 0) && decide ((o - 3) % 42 / 10 < 4) && decide ((o - 3) / 42 < 11)
theorem isJb_of {o : Nat} (h : isJb o = true) : isJ o := by
  simp only [isJb, Bool.and_eq_true, decide_eq_true_eq] at h
  exact ⟨(o - 3) / 42, (o - 3) % 42 / 10, by omega, by omega, by omega⟩
theorem isJb_to {o : Nat} (h : isJ o) : isJb o = true := by
  obtain ⟨a, k, ha, hk, rfl⟩ := h
  have h1 : 3 + 42 * a + 10 * k - 3 = 42 * a + 10 * k := by omega
  have h2 : (42 * a + 10 * k) % 42 = 10 * k := by omega
  have h3 : (42 * a + 10 * k) / 42 = a := by omega
  simp only [isJb, Bool.and_eq_true, decide_eq_true_eq, h1, h2, h3]
  omega
theorem g_ldc {idx : Nat} (v : Int32) (hw : Cond.constant own idx v ∈ UW) (n : Nat) (hn : pc + 2 = n) (d : decode cc pc = .ok (.ldc idx, 2)) (k : G p l e s m args below meth c F Lc cc nL own ret Ω cv b n L (.int v :: st) M) : G p l e s m args below meth c F Lc cc nL own ret Ω cv b pc L st M := fun B X r hr H locs ls hP hS hl => by subst hn; exact lv_ldc B.1 B.2.1 B.2.2.2.1 (B.2.2.2.2.1 _ hw) d (k B X r hr H locs ls hP hS hl)
theorem g_ldc_w {idx : Nat} (v : Int32) (hw : Cond.constant own idx v ∈ UW) (n : Nat) (hn : pc + 3 = n) (d : decode cc pc = .ok (.ldc_w idx, 3)) (k : G p l e s m args below meth c F Lc cc nL own ret Ω cv b n L (.int v :: st) M) : G p l e s m args below meth c F Lc cc nL own ret Ω cv b pc L st M := fun B X r hr H locs ls hP hS hl => by subst hn; exact lv_ldcw B.1 B.2.1 B.2.2.2.1 (B.2.2.2.2.1 _ hw) d (k B X r hr H locs ls hP hS hl)
theorem metF {y : MethodName} {ws ws' : List Cond} {rm : Room} {Pc : Array Value → State → Prop} {Qc : Array Value → State → Outcome → State → Prop} {mc ms : Nat} {free : Addr → Prop} {cc : ByteArray} {maxL : Nat} {ret : Option FieldType}
    (hy : plainFor y = true) (hw : ws = Cond.code y cc maxL ret :: ws')
    (body : ∀ p e s m args below meth c s₁, BodyLoose p l y (headSpec ws rm) cc maxL ret e s m args below meth c s₁ → c.maxLocals = maxL → Pc args s →
      W p l e (headSpec ws rm).room s m args below meth c s.heap [] 0 0 (MQ below Qc args s mc ms free) (entryFrame m args maxL)) : Met l y ws rm Pc Qc mc ms free := by
  refine MetFree.of_bodySF (code := cc) (maxLocals := maxL) (ret := ret) hy ?_ ?_
  · intro args s m h hn
    obtain ⟨meth, c, h1, h2, h3, h4, h5, h6, -, -⟩ := Cond.code_spec hn (atoms_spec (ws := ws) h _ (by rw [hw]; exact List.mem_cons_self))
    exact ⟨meth, c, h1, h2, h3, h4, h5, h6⟩
  · intro p e s m args below meth c s₁ B hml hP _
    have hh0 : s₁.heap = s.heap := by rw [B.state]; rfl
    obtain ⟨t, a1, o, b1, b2, b3⟩ := body p e s m args below meth c s₁ B hml hP s₁ hh0 (Stand.of_body B)
    exact ⟨t, o, a1, b1, b2, ⟨b3.1, b3.2⟩⟩
theorem ofGF {y : MethodName} {av : List Value} (L0 : List (Nat × Value)) (hO : OkW Ω) (hy : plainFor y = true) (hyo : y.cls = own) (hav : (lg_sl av).length ≤ nL) (hL : lv_args 0 av = L0) (hcv : ∀ r, ∃ v M', cv r = (.inr v, M')) (h : ∀ p e s m args below meth c, G p l e s m args below meth c F Lc cc nL own ret Ω cv b 0 L0 [] M) : ∀ r, b = some r → Ct l y (.code y cc nL ret) F Lc Ω av M (cv r) := by
  intro r hr
  obtain ⟨v, M', hcr⟩ := hcv r
  rw [hcr]
  intro sz
  refine metF (cc := cc) (maxL := nL) (ret := ret) hy rfl ?_
  intro p e s m args below meth c s₁ hB hml hv
  obtain ⟨rfl, hsz, hok⟩ := hv
  subst hsz
  have hts := atoms_spec (ws := .code y cc nL ret :: UW) hB.pre
  have hown : s.vm.findClass y.cls = some m.cls := findClass_of_methodNamed hB.named
  have hl := lv_entry av (n := nL) hav
  rw [hL] at hl
  rw [lg_entry_eq]
  have key := h p e s m av.toArray below meth c ⟨hB.exec, hB.bytes, hml, hyo ▸ hown, fun w hw => hts w (List.mem_cons_of_mem _ hw), hok.2.1, hok.2.2, hB.notSynchronized, hB.returns, hO⟩ (hX0 hB) r hr s.heap [] _ hok.1 va_S.rf hl
  rw [hcr] at key
  exact key
end GL
def FU : Nat := 100000
theorem tb1 {w : Cond} (h : w ∈ tables_1_1) : w ∈ tables_1 := List.mem_append_left _ h
theorem tb2 {w : Cond} (h : w ∈ tables_1_2) : w ∈ tables_1 := List.mem_append_right _ (List.mem_append_left _ h)
theorem tb3 {w : Cond} (h : w ∈ tables_1_3) : w ∈ tables_1 := List.mem_append_right _ (List.mem_append_right _ (List.mem_append_left _ h))
theorem tb4 {w : Cond} (h : w ∈ tables_1_4) : w ∈ tables_1 := List.mem_append_right _ (List.mem_append_right _ (List.mem_append_right _ (List.mem_append_left _ h)))
theorem tb5 {w : Cond} (h : w ∈ tables_1_5) : w ∈ tables_1 := List.mem_append_right _ (List.mem_append_right _ (List.mem_append_right _ (List.mem_append_right _ (List.mem_append_left _ h))))
theorem tb6 {w : Cond} (h : w ∈ tables_1_6) : w ∈ tables_1 := List.mem_append_right _ (List.mem_append_right _ (List.mem_append_right _ (List.mem_append_right _ (List.mem_append_right _ (List.mem_append_left _ h)))))
theorem tb7 {w : Cond} (h : w ∈ tables_1_7) : w ∈ tables_1 := List.mem_append_right _ (List.mem_append_right _ (List.mem_append_right _ (List.mem_append_right _ (List.mem_append_right _ (List.mem_append_right _ (List.mem_append_left _ h))))))
theorem tb8 {w : Cond} (h : w ∈ tables_1_8) : w ∈ tables_1 := List.mem_append_right _ (List.mem_append_right _ (List.mem_append_right _ (List.mem_append_right _ (List.mem_append_right _ (List.mem_append_right _ (List.mem_append_right _ (h)))))))
theorem tbu {w : Cond} (h : w ∈ tables_1) (hg : goodWord w = true) : w ∈ UW := uw_mem (List.mem_append_right _ h) hg
theorem tbs {w : Cond} (h : w ∈ k2_sels lw_privs) (hg : goodWord w = true) : w ∈ UW := uw_mem (List.mem_append_left _ h) hg
