/-! what the constructors' blocks look like, by places of their own -/
def rz (al : Nat → Nat) (k : Nat) : Option Value := some (.ref (al k))
def fmJ (cy : Nat → ClassId) (al : Nat → Nat) (j : Nat) (o : Nat) : (Nat → Int32) → va_E := match o with
  | 0 => oc 1 [none, none, none, none, none, none, none, none, none, rz al (j + 1), rz al (j + 2), rz al (j + 3), rz al (j + 4), rz al (j + 5), rz al (j + 6), rz al (j + 7), rz al (j + 8), rz al (j + 9)]
  | 1 => ac (cy 0) 2
  | 2 => ac (cy 0) 6
  | 3 => ac (cy 0) 6
  | 4 => ac (cy 0) 6
  | 5 => ac (cy 0) 6
  | 6 => ac (cy 0) 18
  | 7 => ac (cy 0) 36
  | _ => ac (cy 0) 12
def MJ (o : Nat) : Nat → Int32 := match o with
  | 0 => fun k => if k = 4 then -1 else 0
  | 1 => fun _ => -1
  | 5 => fun _ => -1
  | 6 => fun _ => -1
  | 7 => fun _ => -1
  | _ => fun _ => 0
def gJ (cy : Nat → ClassId) (al : Nat → Nat) (o : Nat) : Nat × va_E := (al o, fmJ cy al 0 o (MJ o))
def BJ (cy : Nat → ClassId) (q : Nat) (ws : va_W) : Prop := ∃ al : Nat → Nat, al 0 = q ∧ ws = wl 10 (gJ cy al)
def fmP (cy : Nat → ClassId) (al : Nat → Nat) (j : Nat) (o : Nat) : (Nat → Int32) → va_E := match o with
  | 0 => oc 2 [none, rz al (j + 1), rz al (j + 2), rz al (j + 3), rz al (j + 4)]
  | _ => ac (cy 0) 6
def gP (cy : Nat → ClassId) (al : Nat → Nat) (o : Nat) : Nat × va_E := (al o, fmP cy al 0 o (fun _ => 0))
def BP (cy : Nat → ClassId) (q : Nat) (ws : va_W) : Prop := ∃ al : Nat → Nat, al 0 = q ∧ ws = wl 5 (gP cy al)
def fmT (cy : Nat → ClassId) (al : Nat → Nat) (j : Nat) (o : Nat) : (Nat → Int32) → va_E := match o with
  | 0 => oc 6 [rz al (j + 1)]
  | _ => ac (cy 0) 120
def gT (cy : Nat → ClassId) (al : Nat → Nat) (o : Nat) : Nat × va_E := (al o, fmT cy al 0 o (fun _ => 0))
def BT (cy : Nat → ClassId) (q : Nat) (ws : va_W) : Prop := ∃ al : Nat → Nat, al 0 = q ∧ ws = wl 2 (gT cy al)
def fmC (cy : Nat → ClassId) (al : Nat → Nat) (j : Nat) (o : Nat) : (Nat → Int32) → va_E := match o with
  | 0 => oc 4 [none, none, none, none, rz al (j + 1), rz al (j + 2), rz al (j + 3), rz al (j + 4)]
  | 1 => ac (cy 1) 60
  | 2 => ac (cy 0) 10
  | 3 => fun _ => rfs (cy 4) 10 (fun _ => none)
  | _ => ac (cy 0) 50
def gC (cy : Nat → ClassId) (al : Nat → Nat) (o : Nat) : Nat × va_E := (al o, fmC cy al 0 o (fun _ => 0))
def BC (cy : Nat → ClassId) (q : Nat) (ws : va_W) : Prop := ∃ al : Nat → Nat, al 0 = q ∧ ws = wl 5 (gC cy al)
def fmR (cy : Nat → ClassId) (al : Nat → Nat) (j : Nat) (o : Nat) : (Nat → Int32) → va_E := match o with
  | 0 => oc 3 [none, rz al (j + 1)]
  | _ => ac (cy 1) 96
def gR (cy : Nat → ClassId) (al : Nat → Nat) (o : Nat) : Nat × va_E := (al o, fmR cy al 0 o (fun _ => 0))
def BR (cy : Nat → ClassId) (q : Nat) (ws : va_W) : Prop := ∃ al : Nat → Nat, al 0 = q ∧ ws = wl 2 (gR cy al)
def fmM (cy : Nat → ClassId) (al : Nat → Nat) (o : Nat) : (Nat → Int32) → va_E := match o with
  | 0 => oc 8 [none, rz al 1, rz al 2, none, rz al 3, none, rz al 4, rz al 5, none, none, none, none, rz al 6, none, rz al 7, rz al 8, rz al 9, rz al 10, rz al 11, none, none, none]
  | 1 => ac (cy 0) 490
  | 2 => ac (cy 0) 3920
  | 3 => ac (cy 0) 490
  | 4 => ac (cy 0) 490
  | 5 => ac (cy 0) 60
  | 6 => ac (cy 0) 120
  | 7 => ac (cy 0) 5
  | 8 => ac (cy 0) 6
  | 9 => ac (cy 0) 6
  | 10 => ac (cy 0) 6
  | _ => ac (cy 0) 120
def MM0 (o : Nat) : Nat → Int32 := match o with
  | 0 => fun k => if k = 10 then -1 else 0
  | 1 => upd (upd (fun _ => 0) (0 : Int32).toNatClampNeg 60) (1 : Int32).toNatClampNeg 14
  | _ => fun _ => 0
def gM (cy : Nat → ClassId) (al : Nat → Nat) (o : Nat) : Nat × va_E := (al o, fmM cy al o (MM0 o))
def BM (cy : Nat → ClassId) (q : Nat) (ws : va_W) : Prop := ∃ al : Nat → Nat, al 0 = q ∧ ws = wl 12 (gM cy al)
/-- Arrays.fill: its array isn't older than the worlds' -/
theorem k_fill1 {p : Program} {l : Launch} {e : Env} {s : State} {m : MethodId} {args : Array Value} {below : List Frame} {meth : Method} {c : Code} {F Lc CC SS : Nat} {cc : ByteArray} {nL : Nat} {own : String} {D : va_G} {cy : Nat → ClassId} {gx : State → Prop} {z0 h0 : Nat} {B : va_W → Prop} {pc cells slots : Nat} {L : List (Nat × Value)} {st : List Value} {ws : va_W} (q0 : Nat) {a N : Nat} {f : Nat → Int32} {v : Int32} (he : ws[q0]? = some (a, ac (cy 0) N f)) (hN : N < 100000) {idx : Nat} (hU : uw_T own idx yJ7_fill_53178 (.code yJ7_fill_53178 cJ7_fill_53178 4 none)) (hF : 1 ≤ F) (hLc : 23 ≤ Lc) (hcl : cells ≤ CC) (hsl : slots ≤ SS) (hw : (st.map fun v => v.category).sum ≤ 8) (ws' : va_W) (hws : ws.set q0 (a, ac (cy 0) N (fun _ => v)) = ws') (nx : Nat) (hnx : pc + 3 = nx) (d : decode cc pc = .ok (.invokestatic idx, 3)) (k : GK p l e s m args below meth c F Lc CC SS cc nL own D cy gx z0 h0 B cells slots nx L st ws') : GK p l e s m args below meth c F Lc CC SS cc nL own D cy gx z0 h0 B cells slots pc L (.int v :: .ref a :: st) ws := fun K H locs ls hP hD hS hl => by
  refine k_fill q0 he hN ?_ hU hF hLc hcl hsl hw ws' hws nx hnx d k K H locs ls hP hD hS hl
  have hz0 := K.2.2.2.2.2.2.2.2.2.2.2.1
  have hh0 := K.2.2.2.2.2.2.2.2.2.2.2.2
  rcases hD.2 q0 _ he with h | h
  · have h2 : a = h0 := h
    rw [h2]; exact hz0
  · exact Nat.le_trans hz0 (Nat.le_trans (Nat.le_of_lt hh0) h)
theorem kw_objI : Cond.instanceMethod Lib.objectInit ∈ UW := tbu (tb1 (List.mem_of_getElem? (i := 39) rfl)) rfl
theorem kw_objC : Cond.code Lib.objectInit ⟨#[0xb1]⟩ 1 none ∈ UW := tbu (tb1 (List.mem_of_getElem? (i := 40) rfl)) rfl
theorem kw_arr_int : Cond.arrayClass .int ∈ UW := tbu (tb1 (List.mem_of_getElem? (i := 133) rfl)) rfl
theorem kw_arr_char : Cond.arrayClass .char ∈ UW := tbu (tb2 (List.mem_of_getElem? (i := 9) rfl)) rfl
theorem kw_fillS : Cond.static yJ7_fill_53178 ∈ UW := tbu (tb1 (List.mem_of_getElem? (i := 55) rfl)) rfl
theorem kw_fillC : Cond.code yJ7_fill_53178 cJ7_fill_53178 4 none ∈ UW := tbu (tb1 (List.mem_of_getElem? (i := 56) rfl)) rfl
theorem kw_fillN : Cond.initialized "java/util/Arrays" ∈ UW := tbu (tb1 (List.mem_of_getElem? (i := 4) rfl)) rfl
theorem kw_X2_3 : Cond.methodLink RX2 3 Lib.objectInit ∈ UW := tbu (tb1 (List.mem_of_getElem? (i := 53) rfl)) rfl
theorem kf_X2_9 : Cond.fieldLink RX2 9 "SignalRoad$Junction" "plannedTime" "I" ∈ UW := tbu (tb1 (List.mem_of_getElem? (i := 73) rfl)) rfl
theorem kf_X2_15 : Cond.fieldLink RX2 15 "SignalRoad$Junction" "roadGroups" "[I" ∈ UW := tbu (tb1 (List.mem_of_getElem? (i := 79) rfl)) rfl
theorem kf_X2_19 : Cond.fieldLink RX2 19 "SignalRoad$Junction" "kinds" "[I" ∈ UW := tbu (tb1 (List.mem_of_getElem? (i := 82) rfl)) rfl
theorem kf_X2_22 : Cond.fieldLink RX2 22 "SignalRoad$Junction" "leasts" "[I" ∈ UW := tbu (tb1 (List.mem_of_getElem? (i := 84) rfl)) rfl
theorem kf_X2_25 : Cond.fieldLink RX2 25 "SignalRoad$Junction" "litSeconds" "[I" ∈ UW := tbu (tb1 (List.mem_of_getElem? (i := 87) rfl)) rfl
theorem kf_X2_28 : Cond.fieldLink RX2 28 "SignalRoad$Junction" "requestTimes" "[I" ∈ UW := tbu (tb1 (List.mem_of_getElem? (i := 89) rfl)) rfl
theorem kf_X2_31 : Cond.fieldLink RX2 31 "SignalRoad$Junction" "heads" "[I" ∈ UW := tbu (tb1 (List.mem_of_getElem? (i := 91) rfl)) rfl
theorem kf_X2_34 : Cond.fieldLink RX2 34 "SignalRoad$Junction" "clearances" "[I" ∈ UW := tbu (tb1 (List.mem_of_getElem? (i := 93) rfl)) rfl
theorem kf_X2_37 : Cond.fieldLink RX2 37 "SignalRoad$Junction" "firsts" "[I" ∈ UW := tbu (tb1 (List.mem_of_getElem? (i := 94) rfl)) rfl
theorem kf_X2_40 : Cond.fieldLink RX2 40 "SignalRoad$Junction" "lengths" "[I" ∈ UW := tbu (tb1 (List.mem_of_getElem? (i := 95) rfl)) rfl
theorem kw_X2_43 : Cond.methodLink RX2 43 yJ7_fill_53178 ∈ UW := tbu (tb1 (List.mem_of_getElem? (i := 54) rfl)) rfl
theorem kw_X3_3 : Cond.methodLink RX3 3 Lib.objectInit ∈ UW := tbu (tb1 (List.mem_of_getElem? (i := 183) rfl)) rfl
theorem kf_X3_9 : Cond.fieldLink RX3 9 "SignalRoad$Phases" "phaseOf" "[I" ∈ UW := tbu (tb1 (List.mem_of_getElem? (i := 186) rfl)) rfl
theorem kf_X3_15 : Cond.fieldLink RX3 15 "SignalRoad$Phases" "starts" "[I" ∈ UW := tbu (tb1 (List.mem_of_getElem? (i := 188) rfl)) rfl
theorem kf_X3_18 : Cond.fieldLink RX3 18 "SignalRoad$Phases" "lengths" "[I" ∈ UW := tbu (tb1 (List.mem_of_getElem? (i := 189) rfl)) rfl
theorem kf_X3_21 : Cond.fieldLink RX3 21 "SignalRoad$Phases" "pauses" "[I" ∈ UW := tbu (tb1 (List.mem_of_getElem? (i := 190) rfl)) rfl
theorem kw_X7_3 : Cond.methodLink RX7 3 Lib.objectInit ∈ UW := tbu (tb1 (List.mem_of_getElem? (i := 207) rfl)) rfl
theorem kf_X7_9 : Cond.fieldLink RX7 9 "SignalRoad$Trips" "freeStarts" "[I" ∈ UW := tbu (tb1 (List.mem_of_getElem? (i := 208) rfl)) rfl
theorem kw_X5_3 : Cond.methodLink RX5 3 Lib.objectInit ∈ UW := tbu (tb1 (List.mem_of_getElem? (i := 217) rfl)) rfl
theorem kf_X5_9 : Cond.fieldLink RX5 9 "SignalRoad$Script" "signs" "[C" ∈ UW := tbu (tb1 (List.mem_of_getElem? (i := 226) rfl)) rfl
theorem kf_X5_15 : Cond.fieldLink RX5 15 "SignalRoad$Script" "starts" "[I" ∈ UW := tbu (tb1 (List.mem_of_getElem? (i := 227) rfl)) rfl
theorem kc_X5_19 : Cond.classLink RX5 19 "SignalRoad$Word" ∈ UW := tbu (tb1 (List.mem_of_getElem? (i := 218) rfl)) rfl
theorem kf_X5_21 : Cond.fieldLink RX5 21 "SignalRoad$Script" "words" "[LSignalRoad$Word;" ∈ UW := tbu (tb1 (List.mem_of_getElem? (i := 229) rfl)) rfl
theorem kf_X5_25 : Cond.fieldLink RX5 25 "SignalRoad$Script" "numbers" "[I" ∈ UW := tbu (tb1 (List.mem_of_getElem? (i := 231) rfl)) rfl
theorem kw_X4_3 : Cond.methodLink RX4 3 Lib.objectInit ∈ UW := tbu (tb2 (List.mem_of_getElem? (i := 15) rfl)) rfl
theorem kf_X4_9 : Cond.fieldLink RX4 9 "SignalRoad$Report" "signs" "[C" ∈ UW := tbu (tb2 (List.mem_of_getElem? (i := 18) rfl)) rfl
theorem kw_X10_3 : Cond.methodLink RX10 3 Lib.objectInit ∈ UW := tbu (tb6 (List.mem_of_getElem? (i := 129) rfl)) rfl
theorem kf_X10_9 : Cond.fieldLink RX10 9 "SignalRoadModel" "now" "[I" ∈ UW := tbu (tb6 (List.mem_of_getElem? (i := 131) rfl)) rfl
theorem kf_X10_13 : Cond.fieldLink RX10 13 "SignalRoadModel" "kept" "[I" ∈ UW := tbu (tb6 (List.mem_of_getElem? (i := 132) rfl)) rfl
theorem kf_X10_16 : Cond.fieldLink RX10 16 "SignalRoadModel" "saved" "[I" ∈ UW := tbu (tb6 (List.mem_of_getElem? (i := 134) rfl)) rfl
theorem kf_X10_19 : Cond.fieldLink RX10 19 "SignalRoadModel" "tried" "[I" ∈ UW := tbu (tb6 (List.mem_of_getElem? (i := 136) rfl)) rfl
theorem kf_X10_22 : Cond.fieldLink RX10 22 "SignalRoadModel" "buffer" "[I" ∈ UW := tbu (tb6 (List.mem_of_getElem? (i := 137) rfl)) rfl
theorem kf_X10_25 : Cond.fieldLink RX10 25 "SignalRoadModel" "error" "I" ∈ UW := tbu (tb6 (List.mem_of_getElem? (i := 140) rfl)) rfl
theorem kf_X10_29 : Cond.fieldLink RX10 29 "SignalRoadModel" "page" "[I" ∈ UW := tbu (tb6 (List.mem_of_getElem? (i := 142) rfl)) rfl
theorem kf_X10_32 : Cond.fieldLink RX10 32 "SignalRoadModel" "item" "[I" ∈ UW := tbu (tb6 (List.mem_of_getElem? (i := 144) rfl)) rfl
theorem kf_X10_35 : Cond.fieldLink RX10 35 "SignalRoadModel" "phase" "[I" ∈ UW := tbu (tb6 (List.mem_of_getElem? (i := 145) rfl)) rfl
theorem kf_X10_38 : Cond.fieldLink RX10 38 "SignalRoadModel" "phaseGreen" "[I" ∈ UW := tbu (tb6 (List.mem_of_getElem? (i := 146) rfl)) rfl
theorem kf_X10_41 : Cond.fieldLink RX10 41 "SignalRoadModel" "between" "[I" ∈ UW := tbu (tb6 (List.mem_of_getElem? (i := 147) rfl)) rfl
theorem kf_X10_44 : Cond.fieldLink RX10 44 "SignalRoadModel" "sets" "[I" ∈ UW := tbu (tb6 (List.mem_of_getElem? (i := 148) rfl)) rfl
theorem ct_X2 (l : Launch) {D : va_G} {cy : Nat → ClassId} {gx : State → Prop} {z0 h0 : Nat} (hG : GxOk gx z0) : CtK l yX2_init (.code yX2_init cX2_init 1 none) 1 23 9 104 D cy gx z0 h0 1 [.int 0, .int 0, .int 0, .int 0, .int 0, .int 0, .int 0, .int 0, .int 0, .null, .null, .null, .null, .null, .null, .null, .null, .null] (BJ cy h0) := by
  refine ofK hG (by decide +kernel) rfl rfl (Nat.le_of_ble_eq_true rfl) (fun p e s m args below meth c => ?_)
  refine k_aload 0 rfl rfl 1 rfl dX2_init_0 ?_
  refine k_obj kw_X2_3 kw_objI kw_objC 4 rfl dX2_init_1 (Nat.le_of_ble_eq_true rfl) (Nat.le_of_ble_eq_true rfl) ?_
  refine k_aload 0 rfl rfl 5 rfl dX2_init_4 ?_
  refine k_iconst (-1) 6 rfl dX2_init_5 (by decide) ?_
  refine k_put 0 rfl rfl in_X2 4 (Nat.le_of_ble_eq_true rfl) kf_X2_9 rfl tyX2 tyX2_ok nmX2 rfl rfl (Nat.le_of_ble_eq_true rfl) [(h0, .inr (1, [.int 0, .int 0, .int 0, .int 0, .int (-1), .int 0, .int 0, .int 0, .int 0, .null, .null, .null, .null, .null, .null, .null, .null, .null]))] rfl 9 rfl dX2_init_6 ?_
  refine k_aload 0 rfl rfl 10 rfl dX2_init_9 ?_
  refine k_iconst (2) 11 rfl dX2_init_10 (by decide) ?_
  refine k_newi (N' := 2) kw_arr_int (by decide) (by decide) (Nat.le_of_ble_eq_true rfl) (Nat.le_of_ble_eq_true rfl) (Nat.le_of_ble_eq_true rfl) 13 rfl dX2_init_11 (fun q1 => ?_)
  refine k_putF 0 rfl rfl in_X2 9 (Nat.le_of_ble_eq_true rfl) kf_X2_15 rfl rfl tyX2 tyX2_ok nmX2 rfl rfl (Nat.le_of_ble_eq_true rfl) [(h0, .inr (1, [.int 0, .int 0, .int 0, .int 0, .int (-1), .int 0, .int 0, .int 0, .int 0, .ref q1, .null, .null, .null, .null, .null, .null, .null, .null])), (q1, ac (cy 0) 2 (fun _ => 0))] rfl 16 rfl dX2_init_13 ?_
  refine k_aload 0 rfl rfl 17 rfl dX2_init_16 ?_
  refine k_bipush (6) 19 rfl dX2_init_17 (by decide) ?_
  refine k_newi (N' := 6) kw_arr_int (by decide) (by decide) (Nat.le_of_ble_eq_true rfl) (Nat.le_of_ble_eq_true rfl) (Nat.le_of_ble_eq_true rfl) 21 rfl dX2_init_19 (fun q2 => ?_)
  refine k_putF 0 rfl rfl in_X2 10 (Nat.le_of_ble_eq_true rfl) kf_X2_19 rfl rfl tyX2 tyX2_ok nmX2 rfl rfl (Nat.le_of_ble_eq_true rfl) [(h0, .inr (1, [.int 0, .int 0, .int 0, .int 0, .int (-1), .int 0, .int 0, .int 0, .int 0, .ref q1, .ref q2, .null, .null, .null, .null, .null, .null, .null])), (q1, ac (cy 0) 2 (fun _ => 0)), (q2, ac (cy 0) 6 (fun _ => 0))] rfl 24 rfl dX2_init_21 ?_
  refine k_aload 0 rfl rfl 25 rfl dX2_init_24 ?_
  refine k_bipush (6) 27 rfl dX2_init_25 (by decide) ?_
  refine k_newi (N' := 6) kw_arr_int (by decide) (by decide) (Nat.le_of_ble_eq_true rfl) (Nat.le_of_ble_eq_true rfl) (Nat.le_of_ble_eq_true rfl) 29 rfl dX2_init_27 (fun q3 => ?_)
  refine k_putF 0 rfl rfl in_X2 11 (Nat.le_of_ble_eq_true rfl) kf_X2_22 rfl rfl tyX2 tyX2_ok nmX2 rfl rfl (Nat.le_of_ble_eq_true rfl) [(h0, .inr (1, [.int 0, .int 0, .int 0, .int 0, .int (-1), .int 0, .int 0, .int 0, .int 0, .ref q1, .ref q2, .ref q3, .null, .null, .null, .null, .null, .null])), (q1, ac (cy 0) 2 (fun _ => 0)), (q2, ac (cy 0) 6 (fun _ => 0)), (q3, ac (cy 0) 6 (fun _ => 0))] rfl 32 rfl dX2_init_29 ?_
  refine k_aload 0 rfl rfl 33 rfl dX2_init_32 ?_
  refine k_bipush (6) 35 rfl dX2_init_33 (by decide) ?_
  refine k_newi (N' := 6) kw_arr_int (by decide) (by decide) (Nat.le_of_ble_eq_true rfl) (Nat.le_of_ble_eq_true rfl) (Nat.le_of_ble_eq_true rfl) 37 rfl dX2_init_35 (fun q4 => ?_)
  refine k_putF 0 rfl rfl in_X2 12 (Nat.le_of_ble_eq_true rfl) kf_X2_25 rfl rfl tyX2 tyX2_ok nmX2 rfl rfl (Nat.le_of_ble_eq_true rfl) [(h0, .inr (1, [.int 0, .int 0, .int 0, .int 0, .int (-1), .int 0, .int 0, .int 0, .int 0, .ref q1, .ref q2, .ref q3, .ref q4, .null, .null, .null, .null, .null])), (q1, ac (cy 0) 2 (fun _ => 0)), (q2, ac (cy 0) 6 (fun _ => 0)), (q3, ac (cy 0) 6 (fun _ => 0)), (q4, ac (cy 0) 6 (fun _ => 0))] rfl 40 rfl dX2_init_37 ?_
  refine k_aload 0 rfl rfl 41 rfl dX2_init_40 ?_
  refine k_bipush (6) 43 rfl dX2_init_41 (by decide) ?_
  refine k_newi (N' := 6) kw_arr_int (by decide) (by decide) (Nat.le_of_ble_eq_true rfl) (Nat.le_of_ble_eq_true rfl) (Nat.le_of_ble_eq_true rfl) 45 rfl dX2_init_43 (fun q5 => ?_)
  refine k_putF 0 rfl rfl in_X2 13 (Nat.le_of_ble_eq_true rfl) kf_X2_28 rfl rfl tyX2 tyX2_ok nmX2 rfl rfl (Nat.le_of_ble_eq_true rfl) [(h0, .inr (1, [.int 0, .int 0, .int 0, .int 0, .int (-1), .int 0, .int 0, .int 0, .int 0, .ref q1, .ref q2, .ref q3, .ref q4, .ref q5, .null, .null, .null, .null])), (q1, ac (cy 0) 2 (fun _ => 0)), (q2, ac (cy 0) 6 (fun _ => 0)), (q3, ac (cy 0) 6 (fun _ => 0)), (q4, ac (cy 0) 6 (fun _ => 0)), (q5, ac (cy 0) 6 (fun _ => 0))] rfl 48 rfl dX2_init_45 ?_
  refine k_aload 0 rfl rfl 49 rfl dX2_init_48 ?_
  refine k_bipush (18) 51 rfl dX2_init_49 (by decide) ?_
  refine k_newi (N' := 18) kw_arr_int (by decide) (by decide) (Nat.le_of_ble_eq_true rfl) (Nat.le_of_ble_eq_true rfl) (Nat.le_of_ble_eq_true rfl) 53 rfl dX2_init_51 (fun q6 => ?_)
  refine k_putF 0 rfl rfl in_X2 14 (Nat.le_of_ble_eq_true rfl) kf_X2_31 rfl rfl tyX2 tyX2_ok nmX2 rfl rfl (Nat.le_of_ble_eq_true rfl) [(h0, .inr (1, [.int 0, .int 0, .int 0, .int 0, .int (-1), .int 0, .int 0, .int 0, .int 0, .ref q1, .ref q2, .ref q3, .ref q4, .ref q5, .ref q6, .null, .null, .null])), (q1, ac (cy 0) 2 (fun _ => 0)), (q2, ac (cy 0) 6 (fun _ => 0)), (q3, ac (cy 0) 6 (fun _ => 0)), (q4, ac (cy 0) 6 (fun _ => 0)), (q5, ac (cy 0) 6 (fun _ => 0)), (q6, ac (cy 0) 18 (fun _ => 0))] rfl 56 rfl dX2_init_53 ?_
  refine k_aload 0 rfl rfl 57 rfl dX2_init_56 ?_
  refine k_bipush (36) 59 rfl dX2_init_57 (by decide) ?_
  refine k_newi (N' := 36) kw_arr_int (by decide) (by decide) (Nat.le_of_ble_eq_true rfl) (Nat.le_of_ble_eq_true rfl) (Nat.le_of_ble_eq_true rfl) 61 rfl dX2_init_59 (fun q7 => ?_)
  refine k_putF 0 rfl rfl in_X2 15 (Nat.le_of_ble_eq_true rfl) kf_X2_34 rfl rfl tyX2 tyX2_ok nmX2 rfl rfl (Nat.le_of_ble_eq_true rfl) [(h0, .inr (1, [.int 0, .int 0, .int 0, .int 0, .int (-1), .int 0, .int 0, .int 0, .int 0, .ref q1, .ref q2, .ref q3, .ref q4, .ref q5, .ref q6, .ref q7, .null, .null])), (q1, ac (cy 0) 2 (fun _ => 0)), (q2, ac (cy 0) 6 (fun _ => 0)), (q3, ac (cy 0) 6 (fun _ => 0)), (q4, ac (cy 0) 6 (fun _ => 0)), (q5, ac (cy 0) 6 (fun _ => 0)), (q6, ac (cy 0) 18 (fun _ => 0)), (q7, ac (cy 0) 36 (fun _ => 0))] rfl 64 rfl dX2_init_61 ?_
  refine k_aload 0 rfl rfl 65 rfl dX2_init_64 ?_
  refine k_bipush (12) 67 rfl dX2_init_65 (by decide) ?_
  refine k_newi (N' := 12) kw_arr_int (by decide) (by decide) (Nat.le_of_ble_eq_true rfl) (Nat.le_of_ble_eq_true rfl) (Nat.le_of_ble_eq_true rfl) 69 rfl dX2_init_67 (fun q8 => ?_)
  refine k_putF 0 rfl rfl in_X2 16 (Nat.le_of_ble_eq_true rfl) kf_X2_37 rfl rfl tyX2 tyX2_ok nmX2 rfl rfl (Nat.le_of_ble_eq_true rfl) [(h0, .inr (1, [.int 0, .int 0, .int 0, .int 0, .int (-1), .int 0, .int 0, .int 0, .int 0, .ref q1, .ref q2, .ref q3, .ref q4, .ref q5, .ref q6, .ref q7, .ref q8, .null])), (q1, ac (cy 0) 2 (fun _ => 0)), (q2, ac (cy 0) 6 (fun _ => 0)), (q3, ac (cy 0) 6 (fun _ => 0)), (q4, ac (cy 0) 6 (fun _ => 0)), (q5, ac (cy 0) 6 (fun _ => 0)), (q6, ac (cy 0) 18 (fun _ => 0)), (q7, ac (cy 0) 36 (fun _ => 0)), (q8, ac (cy 0) 12 (fun _ => 0))] rfl 72 rfl dX2_init_69 ?_
  refine k_aload 0 rfl rfl 73 rfl dX2_init_72 ?_
  refine k_bipush (12) 75 rfl dX2_init_73 (by decide) ?_
  refine k_newi (N' := 12) kw_arr_int (by decide) (by decide) (Nat.le_of_ble_eq_true rfl) (Nat.le_of_ble_eq_true rfl) (Nat.le_of_ble_eq_true rfl) 77 rfl dX2_init_75 (fun q9 => ?_)
  refine k_putF 0 rfl rfl in_X2 17 (Nat.le_of_ble_eq_true rfl) kf_X2_40 rfl rfl tyX2 tyX2_ok nmX2 rfl rfl (Nat.le_of_ble_eq_true rfl) [(h0, .inr (1, [.int 0, .int 0, .int 0, .int 0, .int (-1), .int 0, .int 0, .int 0, .int 0, .ref q1, .ref q2, .ref q3, .ref q4, .ref q5, .ref q6, .ref q7, .ref q8, .ref q9])), (q1, ac (cy 0) 2 (fun _ => 0)), (q2, ac (cy 0) 6 (fun _ => 0)), (q3, ac (cy 0) 6 (fun _ => 0)), (q4, ac (cy 0) 6 (fun _ => 0)), (q5, ac (cy 0) 6 (fun _ => 0)), (q6, ac (cy 0) 18 (fun _ => 0)), (q7, ac (cy 0) 36 (fun _ => 0)), (q8, ac (cy 0) 12 (fun _ => 0)), (q9, ac (cy 0) 12 (fun _ => 0))] rfl 80 rfl dX2_init_77 ?_
  refine k_aload 0 rfl rfl 81 rfl dX2_init_80 ?_
  refine k_get 0 rfl rfl in_X2 9 (Nat.le_of_ble_eq_true rfl) kf_X2_15 rfl 84 rfl dX2_init_81 ?_
  refine k_iconst (-1) 85 rfl dX2_init_84 (by decide) ?_
  refine k_fill1 1 rfl (Nat.le_of_ble_eq_true rfl) ⟨kw_X2_43, kw_fillS, kw_fillN, kw_fillC⟩ (Nat.le_of_ble_eq_true rfl) (Nat.le_of_ble_eq_true rfl) (Nat.le_of_ble_eq_true rfl) (Nat.le_of_ble_eq_true rfl) (Nat.le_of_ble_eq_true rfl) [(h0, .inr (1, [.int 0, .int 0, .int 0, .int 0, .int (-1), .int 0, .int 0, .int 0, .int 0, .ref q1, .ref q2, .ref q3, .ref q4, .ref q5, .ref q6, .ref q7, .ref q8, .ref q9])), (q1, ac (cy 0) 2 (fun _ => (-1))), (q2, ac (cy 0) 6 (fun _ => 0)), (q3, ac (cy 0) 6 (fun _ => 0)), (q4, ac (cy 0) 6 (fun _ => 0)), (q5, ac (cy 0) 6 (fun _ => 0)), (q6, ac (cy 0) 18 (fun _ => 0)), (q7, ac (cy 0) 36 (fun _ => 0)), (q8, ac (cy 0) 12 (fun _ => 0)), (q9, ac (cy 0) 12 (fun _ => 0))] rfl 88 rfl dX2_init_85 ?_
  refine k_aload 0 rfl rfl 89 rfl dX2_init_88 ?_
  refine k_get 0 rfl rfl in_X2 13 (Nat.le_of_ble_eq_true rfl) kf_X2_28 rfl 92 rfl dX2_init_89 ?_
  refine k_iconst (-1) 93 rfl dX2_init_92 (by decide) ?_
  refine k_fill1 5 rfl (Nat.le_of_ble_eq_true rfl) ⟨kw_X2_43, kw_fillS, kw_fillN, kw_fillC⟩ (Nat.le_of_ble_eq_true rfl) (Nat.le_of_ble_eq_true rfl) (Nat.le_of_ble_eq_true rfl) (Nat.le_of_ble_eq_true rfl) (Nat.le_of_ble_eq_true rfl) [(h0, .inr (1, [.int 0, .int 0, .int 0, .int 0, .int (-1), .int 0, .int 0, .int 0, .int 0, .ref q1, .ref q2, .ref q3, .ref q4, .ref q5, .ref q6, .ref q7, .ref q8, .ref q9])), (q1, ac (cy 0) 2 (fun _ => (-1))), (q2, ac (cy 0) 6 (fun _ => 0)), (q3, ac (cy 0) 6 (fun _ => 0)), (q4, ac (cy 0) 6 (fun _ => 0)), (q5, ac (cy 0) 6 (fun _ => (-1))), (q6, ac (cy 0) 18 (fun _ => 0)), (q7, ac (cy 0) 36 (fun _ => 0)), (q8, ac (cy 0) 12 (fun _ => 0)), (q9, ac (cy 0) 12 (fun _ => 0))] rfl 96 rfl dX2_init_93 ?_
  refine k_aload 0 rfl rfl 97 rfl dX2_init_96 ?_
  refine k_get 0 rfl rfl in_X2 14 (Nat.le_of_ble_eq_true rfl) kf_X2_31 rfl 100 rfl dX2_init_97 ?_
  refine k_iconst (-1) 101 rfl dX2_init_100 (by decide) ?_
  refine k_fill1 6 rfl (Nat.le_of_ble_eq_true rfl) ⟨kw_X2_43, kw_fillS, kw_fillN, kw_fillC⟩ (Nat.le_of_ble_eq_true rfl) (Nat.le_of_ble_eq_true rfl) (Nat.le_of_ble_eq_true rfl) (Nat.le_of_ble_eq_true rfl) (Nat.le_of_ble_eq_true rfl) [(h0, .inr (1, [.int 0, .int 0, .int 0, .int 0, .int (-1), .int 0, .int 0, .int 0, .int 0, .ref q1, .ref q2, .ref q3, .ref q4, .ref q5, .ref q6, .ref q7, .ref q8, .ref q9])), (q1, ac (cy 0) 2 (fun _ => (-1))), (q2, ac (cy 0) 6 (fun _ => 0)), (q3, ac (cy 0) 6 (fun _ => 0)), (q4, ac (cy 0) 6 (fun _ => 0)), (q5, ac (cy 0) 6 (fun _ => (-1))), (q6, ac (cy 0) 18 (fun _ => (-1))), (q7, ac (cy 0) 36 (fun _ => 0)), (q8, ac (cy 0) 12 (fun _ => 0)), (q9, ac (cy 0) 12 (fun _ => 0))] rfl 104 rfl dX2_init_101 ?_
  refine k_aload 0 rfl rfl 105 rfl dX2_init_104 ?_
  refine k_get 0 rfl rfl in_X2 15 (Nat.le_of_ble_eq_true rfl) kf_X2_34 rfl 108 rfl dX2_init_105 ?_
  refine k_iconst (-1) 109 rfl dX2_init_108 (by decide) ?_
  refine k_fill1 7 rfl (Nat.le_of_ble_eq_true rfl) ⟨kw_X2_43, kw_fillS, kw_fillN, kw_fillC⟩ (Nat.le_of_ble_eq_true rfl) (Nat.le_of_ble_eq_true rfl) (Nat.le_of_ble_eq_true rfl) (Nat.le_of_ble_eq_true rfl) (Nat.le_of_ble_eq_true rfl) [(h0, .inr (1, [.int 0, .int 0, .int 0, .int 0, .int (-1), .int 0, .int 0, .int 0, .int 0, .ref q1, .ref q2, .ref q3, .ref q4, .ref q5, .ref q6, .ref q7, .ref q8, .ref q9])), (q1, ac (cy 0) 2 (fun _ => (-1))), (q2, ac (cy 0) 6 (fun _ => 0)), (q3, ac (cy 0) 6 (fun _ => 0)), (q4, ac (cy 0) 6 (fun _ => 0)), (q5, ac (cy 0) 6 (fun _ => (-1))), (q6, ac (cy 0) 18 (fun _ => (-1))), (q7, ac (cy 0) 36 (fun _ => (-1))), (q8, ac (cy 0) 12 (fun _ => 0)), (q9, ac (cy 0) 12 (fun _ => 0))] rfl 112 rfl dX2_init_109 ?_
  exact k_ret ⟨(fun k => match k with | 0 => h0 | 1 => q1 | 2 => q2 | 3 => q3 | 4 => q4 | 5 => q5 | 6 => q6 | 7 => q7 | 8 => q8 | _ => q9), rfl, rfl⟩ (Nat.le_of_ble_eq_true rfl) (Nat.le_of_ble_eq_true rfl) dX2_init_112
theorem ct_X3 (l : Launch) {D : va_G} {cy : Nat → ClassId} {gx : State → Prop} {z0 h0 : Nat} (hG : GxOk gx z0) : CtK l yX3_init (.code yX3_init cX3_init 1 none) 1 12 4 24 D cy gx z0 h0 2 [.int 0, .null, .null, .null, .null] (BP cy h0) := by
  refine ofK hG (by decide +kernel) rfl rfl (Nat.le_of_ble_eq_true rfl) (fun p e s m args below meth c => ?_)
  refine k_aload 0 rfl rfl 1 rfl dX3_init_0 ?_
  refine k_obj kw_X3_3 kw_objI kw_objC 4 rfl dX3_init_1 (Nat.le_of_ble_eq_true rfl) (Nat.le_of_ble_eq_true rfl) ?_
  refine k_aload 0 rfl rfl 5 rfl dX3_init_4 ?_
  refine k_bipush (6) 7 rfl dX3_init_5 (by decide) ?_
  refine k_newi (N' := 6) kw_arr_int (by decide) (by decide) (Nat.le_of_ble_eq_true rfl) (Nat.le_of_ble_eq_true rfl) (Nat.le_of_ble_eq_true rfl) 9 rfl dX3_init_7 (fun q1 => ?_)
  refine k_putF 0 rfl rfl in_X3 1 (Nat.le_of_ble_eq_true rfl) kf_X3_9 rfl rfl tyX3 tyX3_ok nmX3 rfl rfl (Nat.le_of_ble_eq_true rfl) [(h0, .inr (2, [.int 0, .ref q1, .null, .null, .null])), (q1, ac (cy 0) 6 (fun _ => 0))] rfl 12 rfl dX3_init_9 ?_
  refine k_aload 0 rfl rfl 13 rfl dX3_init_12 ?_
  refine k_bipush (6) 15 rfl dX3_init_13 (by decide) ?_
  refine k_newi (N' := 6) kw_arr_int (by decide) (by decide) (Nat.le_of_ble_eq_true rfl) (Nat.le_of_ble_eq_true rfl) (Nat.le_of_ble_eq_true rfl) 17 rfl dX3_init_15 (fun q2 => ?_)
  refine k_putF 0 rfl rfl in_X3 2 (Nat.le_of_ble_eq_true rfl) kf_X3_15 rfl rfl tyX3 tyX3_ok nmX3 rfl rfl (Nat.le_of_ble_eq_true rfl) [(h0, .inr (2, [.int 0, .ref q1, .ref q2, .null, .null])), (q1, ac (cy 0) 6 (fun _ => 0)), (q2, ac (cy 0) 6 (fun _ => 0))] rfl 20 rfl dX3_init_17 ?_
  refine k_aload 0 rfl rfl 21 rfl dX3_init_20 ?_
  refine k_bipush (6) 23 rfl dX3_init_21 (by decide) ?_
  refine k_newi (N' := 6) kw_arr_int (by decide) (by decide) (Nat.le_of_ble_eq_true rfl) (Nat.le_of_ble_eq_true rfl) (Nat.le_of_ble_eq_true rfl) 25 rfl dX3_init_23 (fun q3 => ?_)
  refine k_putF 0 rfl rfl in_X3 3 (Nat.le_of_ble_eq_true rfl) kf_X3_18 rfl rfl tyX3 tyX3_ok nmX3 rfl rfl (Nat.le_of_ble_eq_true rfl) [(h0, .inr (2, [.int 0, .ref q1, .ref q2, .ref q3, .null])), (q1, ac (cy 0) 6 (fun _ => 0)), (q2, ac (cy 0) 6 (fun _ => 0)), (q3, ac (cy 0) 6 (fun _ => 0))] rfl 28 rfl dX3_init_25 ?_
  refine k_aload 0 rfl rfl 29 rfl dX3_init_28 ?_
  refine k_bipush (6) 31 rfl dX3_init_29 (by decide) ?_
  refine k_newi (N' := 6) kw_arr_int (by decide) (by decide) (Nat.le_of_ble_eq_true rfl) (Nat.le_of_ble_eq_true rfl) (Nat.le_of_ble_eq_true rfl) 33 rfl dX3_init_31 (fun q4 => ?_)
  refine k_putF 0 rfl rfl in_X3 4 (Nat.le_of_ble_eq_true rfl) kf_X3_21 rfl rfl tyX3 tyX3_ok nmX3 rfl rfl (Nat.le_of_ble_eq_true rfl) [(h0, .inr (2, [.int 0, .ref q1, .ref q2, .ref q3, .ref q4])), (q1, ac (cy 0) 6 (fun _ => 0)), (q2, ac (cy 0) 6 (fun _ => 0)), (q3, ac (cy 0) 6 (fun _ => 0)), (q4, ac (cy 0) 6 (fun _ => 0))] rfl 36 rfl dX3_init_33 ?_
  exact k_ret ⟨(fun k => match k with | 0 => h0 | 1 => q1 | 2 => q2 | 3 => q3 | _ => q4), rfl, rfl⟩ (Nat.le_of_ble_eq_true rfl) (Nat.le_of_ble_eq_true rfl) dX3_init_36
theorem ct_X7 (l : Launch) {D : va_G} {cy : Nat → ClassId} {gx : State → Prop} {z0 h0 : Nat} (hG : GxOk gx z0) : CtK l yX7_init (.code yX7_init cX7_init 1 none) 1 12 1 120 D cy gx z0 h0 6 [.null] (BT cy h0) := by
  refine ofK hG (by decide +kernel) rfl rfl (Nat.le_of_ble_eq_true rfl) (fun p e s m args below meth c => ?_)
  refine k_aload 0 rfl rfl 1 rfl dX7_init_0 ?_
  refine k_obj kw_X7_3 kw_objI kw_objC 4 rfl dX7_init_1 (Nat.le_of_ble_eq_true rfl) (Nat.le_of_ble_eq_true rfl) ?_
  refine k_aload 0 rfl rfl 5 rfl dX7_init_4 ?_
  refine k_bipush (120) 7 rfl dX7_init_5 (by decide) ?_
  refine k_newi (N' := 120) kw_arr_int (by decide) (by decide) (Nat.le_of_ble_eq_true rfl) (Nat.le_of_ble_eq_true rfl) (Nat.le_of_ble_eq_true rfl) 9 rfl dX7_init_7 (fun q1 => ?_)
  refine k_putF 0 rfl rfl in_X7 0 (Nat.le_of_ble_eq_true rfl) kf_X7_9 rfl rfl tyX7 tyX7_ok nmX7 rfl rfl (Nat.le_of_ble_eq_true rfl) [(h0, .inr (6, [.ref q1])), (q1, ac (cy 0) 120 (fun _ => 0))] rfl 12 rfl dX7_init_9 ?_
  exact k_ret ⟨(fun k => match k with | 0 => h0 | _ => q1), rfl, rfl⟩ (Nat.le_of_ble_eq_true rfl) (Nat.le_of_ble_eq_true rfl) dX7_init_12
theorem ct_X5 (l : Launch) {D : va_G} {cy : Nat → ClassId} {gx : State → Prop} {z0 h0 : Nat} (hG : GxOk gx z0) : CtK l yX5_init (.code yX5_init cX5_init 1 none) 1 12 4 130 D cy gx z0 h0 4 [.int 0, .int 0, .int 0, .int 0, .null, .null, .null, .null] (BC cy h0) := by
  refine ofK hG (by decide +kernel) rfl rfl (Nat.le_of_ble_eq_true rfl) (fun p e s m args below meth c => ?_)
  refine k_aload 0 rfl rfl 1 rfl dX5_init_0 ?_
  refine k_obj kw_X5_3 kw_objI kw_objC 4 rfl dX5_init_1 (Nat.le_of_ble_eq_true rfl) (Nat.le_of_ble_eq_true rfl) ?_
  refine k_aload 0 rfl rfl 5 rfl dX5_init_4 ?_
  refine k_bipush (60) 7 rfl dX5_init_5 (by decide) ?_
  refine k_newc (N' := 60) kw_arr_char (by decide) (by decide) (Nat.le_of_ble_eq_true rfl) (Nat.le_of_ble_eq_true rfl) (Nat.le_of_ble_eq_true rfl) 9 rfl dX5_init_7 (fun q1 => ?_)
  refine k_putF 0 rfl rfl in_X5 4 (Nat.le_of_ble_eq_true rfl) kf_X5_9 rfl rfl tyX5 tyX5_ok nmX5 rfl rfl (Nat.le_of_ble_eq_true rfl) [(h0, .inr (4, [.int 0, .int 0, .int 0, .int 0, .ref q1, .null, .null, .null])), (q1, ac (cy 1) 60 (fun _ => 0))] rfl 12 rfl dX5_init_9 ?_
  refine k_aload 0 rfl rfl 13 rfl dX5_init_12 ?_
  refine k_bipush (10) 15 rfl dX5_init_13 (by decide) ?_
  refine k_newi (N' := 10) kw_arr_int (by decide) (by decide) (Nat.le_of_ble_eq_true rfl) (Nat.le_of_ble_eq_true rfl) (Nat.le_of_ble_eq_true rfl) 17 rfl dX5_init_15 (fun q2 => ?_)
  refine k_putF 0 rfl rfl in_X5 5 (Nat.le_of_ble_eq_true rfl) kf_X5_15 rfl rfl tyX5 tyX5_ok nmX5 rfl rfl (Nat.le_of_ble_eq_true rfl) [(h0, .inr (4, [.int 0, .int 0, .int 0, .int 0, .ref q1, .ref q2, .null, .null])), (q1, ac (cy 1) 60 (fun _ => 0)), (q2, ac (cy 0) 10 (fun _ => 0))] rfl 20 rfl dX5_init_17 ?_
  refine k_aload 0 rfl rfl 21 rfl dX5_init_20 ?_
  refine k_bipush (10) 23 rfl dX5_init_21 (by decide) ?_
  refine k_newq (N' := 10) 4 rfl (fun U h => (hG.2.2.2.1 U h).2.2) kc_X5_19 (by decide) (by decide) (Nat.le_of_ble_eq_true rfl) (Nat.le_of_ble_eq_true rfl) (Nat.le_of_ble_eq_true rfl) 26 rfl dX5_init_23 (fun q3 => ?_)
  refine k_putF 0 rfl rfl in_X5 6 (Nat.le_of_ble_eq_true rfl) kf_X5_21 rfl rfl tyX5 tyX5_ok nmX5 rfl rfl (Nat.le_of_ble_eq_true rfl) [(h0, .inr (4, [.int 0, .int 0, .int 0, .int 0, .ref q1, .ref q2, .ref q3, .null])), (q1, ac (cy 1) 60 (fun _ => 0)), (q2, ac (cy 0) 10 (fun _ => 0)), (q3, rfs (cy 4) 10 (fun _ => none))] rfl 29 rfl dX5_init_26 ?_
  refine k_aload 0 rfl rfl 30 rfl dX5_init_29 ?_
  refine k_bipush (50) 32 rfl dX5_init_30 (by decide) ?_
  refine k_newi (N' := 50) kw_arr_int (by decide) (by decide) (Nat.le_of_ble_eq_true rfl) (Nat.le_of_ble_eq_true rfl) (Nat.le_of_ble_eq_true rfl) 34 rfl dX5_init_32 (fun q4 => ?_)
  refine k_putF 0 rfl rfl in_X5 7 (Nat.le_of_ble_eq_true rfl) kf_X5_25 rfl rfl tyX5 tyX5_ok nmX5 rfl rfl (Nat.le_of_ble_eq_true rfl) [(h0, .inr (4, [.int 0, .int 0, .int 0, .int 0, .ref q1, .ref q2, .ref q3, .ref q4])), (q1, ac (cy 1) 60 (fun _ => 0)), (q2, ac (cy 0) 10 (fun _ => 0)), (q3, rfs (cy 4) 10 (fun _ => none)), (q4, ac (cy 0) 50 (fun _ => 0))] rfl 37 rfl dX5_init_34 ?_
  exact k_ret ⟨(fun k => match k with | 0 => h0 | 1 => q1 | 2 => q2 | 3 => q3 | _ => q4), rfl, rfl⟩ (Nat.le_of_ble_eq_true rfl) (Nat.le_of_ble_eq_true rfl) dX5_init_37
theorem ct_X4 (l : Launch) {D : va_G} {cy : Nat → ClassId} {gx : State → Prop} {z0 h0 : Nat} (hG : GxOk gx z0) : CtK l yX4_init (.code yX4_init cX4_init 1 none) 1 12 1 96 D cy gx z0 h0 3 [.int 0, .null] (BR cy h0) := by
  refine ofK hG (by decide +kernel) rfl rfl (Nat.le_of_ble_eq_true rfl) (fun p e s m args below meth c => ?_)
  refine k_aload 0 rfl rfl 1 rfl dX4_init_0 ?_
  refine k_obj kw_X4_3 kw_objI kw_objC 4 rfl dX4_init_1 (Nat.le_of_ble_eq_true rfl) (Nat.le_of_ble_eq_true rfl) ?_
  refine k_aload 0 rfl rfl 5 rfl dX4_init_4 ?_
  refine k_bipush (96) 7 rfl dX4_init_5 (by decide) ?_
  refine k_newc (N' := 96) kw_arr_char (by decide) (by decide) (Nat.le_of_ble_eq_true rfl) (Nat.le_of_ble_eq_true rfl) (Nat.le_of_ble_eq_true rfl) 9 rfl dX4_init_7 (fun q1 => ?_)
  refine k_putF 0 rfl rfl in_X4 1 (Nat.le_of_ble_eq_true rfl) kf_X4_9 rfl rfl tyX4 tyX4_ok nmX4 rfl rfl (Nat.le_of_ble_eq_true rfl) [(h0, .inr (3, [.int 0, .ref q1])), (q1, ac (cy 1) 96 (fun _ => 0))] rfl 12 rfl dX4_init_9 ?_
  exact k_ret ⟨(fun k => match k with | 0 => h0 | _ => q1), rfl, rfl⟩ (Nat.le_of_ble_eq_true rfl) (Nat.le_of_ble_eq_true rfl) dX4_init_12
theorem ct_X10 (l : Launch) {D : va_G} {cy : Nat → ClassId} {gx : State → Prop} {z0 h0 : Nat} (hG : GxOk gx z0) : CtK l yX10_init (.code yX10_init cX10_init 1 none) 1 12 11 5713 D cy gx z0 h0 8 [.int 0, .null, .null, .int 0, .null, .int 0, .null, .null, .int 0, .int 0, .int 0, .int 0, .null, .int 0, .null, .null, .null, .null, .null, .int 0, .int 0, .int 0] (BM cy h0) := by
  refine ofK hG (by decide +kernel) rfl rfl (Nat.le_of_ble_eq_true rfl) (fun p e s m args below meth c => ?_)
  refine k_aload 0 rfl rfl 1 rfl dX10_init_0 ?_
  refine k_obj kw_X10_3 kw_objI kw_objC 4 rfl dX10_init_1 (Nat.le_of_ble_eq_true rfl) (Nat.le_of_ble_eq_true rfl) ?_
  refine k_aload 0 rfl rfl 5 rfl dX10_init_4 ?_
  refine k_sipush (490) 8 rfl dX10_init_5 (by decide) ?_
  refine k_newi (N' := 490) kw_arr_int (by decide) (by decide) (Nat.le_of_ble_eq_true rfl) (Nat.le_of_ble_eq_true rfl) (Nat.le_of_ble_eq_true rfl) 10 rfl dX10_init_8 (fun q1 => ?_)
  refine k_putF 0 rfl rfl in_X10 1 (Nat.le_of_ble_eq_true rfl) kf_X10_9 rfl rfl tyX10 tyX10_ok nmX10 rfl rfl (Nat.le_of_ble_eq_true rfl) [(h0, .inr (8, [.int 0, .ref q1, .null, .int 0, .null, .int 0, .null, .null, .int 0, .int 0, .int 0, .int 0, .null, .int 0, .null, .null, .null, .null, .null, .int 0, .int 0, .int 0])), (q1, ac (cy 0) 490 (fun _ => 0))] rfl 13 rfl dX10_init_10 ?_
  refine k_aload 0 rfl rfl 14 rfl dX10_init_13 ?_
  refine k_sipush (3920) 17 rfl dX10_init_14 (by decide) ?_
  refine k_newi (N' := 3920) kw_arr_int (by decide) (by decide) (Nat.le_of_ble_eq_true rfl) (Nat.le_of_ble_eq_true rfl) (Nat.le_of_ble_eq_true rfl) 19 rfl dX10_init_17 (fun q2 => ?_)
  refine k_putF 0 rfl rfl in_X10 2 (Nat.le_of_ble_eq_true rfl) kf_X10_13 rfl rfl tyX10 tyX10_ok nmX10 rfl rfl (Nat.le_of_ble_eq_true rfl) [(h0, .inr (8, [.int 0, .ref q1, .ref q2, .int 0, .null, .int 0, .null, .null, .int 0, .int 0, .int 0, .int 0, .null, .int 0, .null, .null, .null, .null, .null, .int 0, .int 0, .int 0])), (q1, ac (cy 0) 490 (fun _ => 0)), (q2, ac (cy 0) 3920 (fun _ => 0))] rfl 22 rfl dX10_init_19 ?_
  refine k_aload 0 rfl rfl 23 rfl dX10_init_22 ?_
  refine k_sipush (490) 26 rfl dX10_init_23 (by decide) ?_
  refine k_newi (N' := 490) kw_arr_int (by decide) (by decide) (Nat.le_of_ble_eq_true rfl) (Nat.le_of_ble_eq_true rfl) (Nat.le_of_ble_eq_true rfl) 28 rfl dX10_init_26 (fun q3 => ?_)
  refine k_putF 0 rfl rfl in_X10 4 (Nat.le_of_ble_eq_true rfl) kf_X10_16 rfl rfl tyX10 tyX10_ok nmX10 rfl rfl (Nat.le_of_ble_eq_true rfl) [(h0, .inr (8, [.int 0, .ref q1, .ref q2, .int 0, .ref q3, .int 0, .null, .null, .int 0, .int 0, .int 0, .int 0, .null, .int 0, .null, .null, .null, .null, .null, .int 0, .int 0, .int 0])), (q1, ac (cy 0) 490 (fun _ => 0)), (q2, ac (cy 0) 3920 (fun _ => 0)), (q3, ac (cy 0) 490 (fun _ => 0))] rfl 31 rfl dX10_init_28 ?_
  refine k_aload 0 rfl rfl 32 rfl dX10_init_31 ?_
  refine k_sipush (490) 35 rfl dX10_init_32 (by decide) ?_
  refine k_newi (N' := 490) kw_arr_int (by decide) (by decide) (Nat.le_of_ble_eq_true rfl) (Nat.le_of_ble_eq_true rfl) (Nat.le_of_ble_eq_true rfl) 37 rfl dX10_init_35 (fun q4 => ?_)
  refine k_putF 0 rfl rfl in_X10 6 (Nat.le_of_ble_eq_true rfl) kf_X10_19 rfl rfl tyX10 tyX10_ok nmX10 rfl rfl (Nat.le_of_ble_eq_true rfl) [(h0, .inr (8, [.int 0, .ref q1, .ref q2, .int 0, .ref q3, .int 0, .ref q4, .null, .int 0, .int 0, .int 0, .int 0, .null, .int 0, .null, .null, .null, .null, .null, .int 0, .int 0, .int 0])), (q1, ac (cy 0) 490 (fun _ => 0)), (q2, ac (cy 0) 3920 (fun _ => 0)), (q3, ac (cy 0) 490 (fun _ => 0)), (q4, ac (cy 0) 490 (fun _ => 0))] rfl 40 rfl dX10_init_37 ?_
  refine k_aload 0 rfl rfl 41 rfl dX10_init_40 ?_
  refine k_bipush (60) 43 rfl dX10_init_41 (by decide) ?_
  refine k_newi (N' := 60) kw_arr_int (by decide) (by decide) (Nat.le_of_ble_eq_true rfl) (Nat.le_of_ble_eq_true rfl) (Nat.le_of_ble_eq_true rfl) 45 rfl dX10_init_43 (fun q5 => ?_)
  refine k_putF 0 rfl rfl in_X10 7 (Nat.le_of_ble_eq_true rfl) kf_X10_22 rfl rfl tyX10 tyX10_ok nmX10 rfl rfl (Nat.le_of_ble_eq_true rfl) [(h0, .inr (8, [.int 0, .ref q1, .ref q2, .int 0, .ref q3, .int 0, .ref q4, .ref q5, .int 0, .int 0, .int 0, .int 0, .null, .int 0, .null, .null, .null, .null, .null, .int 0, .int 0, .int 0])), (q1, ac (cy 0) 490 (fun _ => 0)), (q2, ac (cy 0) 3920 (fun _ => 0)), (q3, ac (cy 0) 490 (fun _ => 0)), (q4, ac (cy 0) 490 (fun _ => 0)), (q5, ac (cy 0) 60 (fun _ => 0))] rfl 48 rfl dX10_init_45 ?_
  refine k_aload 0 rfl rfl 49 rfl dX10_init_48 ?_
  refine k_iconst (-1) 50 rfl dX10_init_49 (by decide) ?_
  refine k_put 0 rfl rfl in_X10 10 (Nat.le_of_ble_eq_true rfl) kf_X10_25 rfl tyX10 tyX10_ok nmX10 rfl rfl (Nat.le_of_ble_eq_true rfl) [(h0, .inr (8, [.int 0, .ref q1, .ref q2, .int 0, .ref q3, .int 0, .ref q4, .ref q5, .int 0, .int 0, .int (-1), .int 0, .null, .int 0, .null, .null, .null, .null, .null, .int 0, .int 0, .int 0])), (q1, ac (cy 0) 490 (fun _ => 0)), (q2, ac (cy 0) 3920 (fun _ => 0)), (q3, ac (cy 0) 490 (fun _ => 0)), (q4, ac (cy 0) 490 (fun _ => 0)), (q5, ac (cy 0) 60 (fun _ => 0))] rfl 53 rfl dX10_init_50 ?_
  refine k_aload 0 rfl rfl 54 rfl dX10_init_53 ?_
  refine k_bipush (120) 56 rfl dX10_init_54 (by decide) ?_
  refine k_newi (N' := 120) kw_arr_int (by decide) (by decide) (Nat.le_of_ble_eq_true rfl) (Nat.le_of_ble_eq_true rfl) (Nat.le_of_ble_eq_true rfl) 58 rfl dX10_init_56 (fun q6 => ?_)
  refine k_putF 0 rfl rfl in_X10 12 (Nat.le_of_ble_eq_true rfl) kf_X10_29 rfl rfl tyX10 tyX10_ok nmX10 rfl rfl (Nat.le_of_ble_eq_true rfl) [(h0, .inr (8, [.int 0, .ref q1, .ref q2, .int 0, .ref q3, .int 0, .ref q4, .ref q5, .int 0, .int 0, .int (-1), .int 0, .ref q6, .int 0, .null, .null, .null, .null, .null, .int 0, .int 0, .int 0])), (q1, ac (cy 0) 490 (fun _ => 0)), (q2, ac (cy 0) 3920 (fun _ => 0)), (q3, ac (cy 0) 490 (fun _ => 0)), (q4, ac (cy 0) 490 (fun _ => 0)), (q5, ac (cy 0) 60 (fun _ => 0)), (q6, ac (cy 0) 120 (fun _ => 0))] rfl 61 rfl dX10_init_58 ?_
  refine k_aload 0 rfl rfl 62 rfl dX10_init_61 ?_
  refine k_iconst (5) 63 rfl dX10_init_62 (by decide) ?_
  refine k_newi (N' := 5) kw_arr_int (by decide) (by decide) (Nat.le_of_ble_eq_true rfl) (Nat.le_of_ble_eq_true rfl) (Nat.le_of_ble_eq_true rfl) 65 rfl dX10_init_63 (fun q7 => ?_)
  refine k_putF 0 rfl rfl in_X10 14 (Nat.le_of_ble_eq_true rfl) kf_X10_32 rfl rfl tyX10 tyX10_ok nmX10 rfl rfl (Nat.le_of_ble_eq_true rfl) [(h0, .inr (8, [.int 0, .ref q1, .ref q2, .int 0, .ref q3, .int 0, .ref q4, .ref q5, .int 0, .int 0, .int (-1), .int 0, .ref q6, .int 0, .ref q7, .null, .null, .null, .null, .int 0, .int 0, .int 0])), (q1, ac (cy 0) 490 (fun _ => 0)), (q2, ac (cy 0) 3920 (fun _ => 0)), (q3, ac (cy 0) 490 (fun _ => 0)), (q4, ac (cy 0) 490 (fun _ => 0)), (q5, ac (cy 0) 60 (fun _ => 0)), (q6, ac (cy 0) 120 (fun _ => 0)), (q7, ac (cy 0) 5 (fun _ => 0))] rfl 68 rfl dX10_init_65 ?_
  refine k_aload 0 rfl rfl 69 rfl dX10_init_68 ?_
  refine k_bipush (6) 71 rfl dX10_init_69 (by decide) ?_
  refine k_newi (N' := 6) kw_arr_int (by decide) (by decide) (Nat.le_of_ble_eq_true rfl) (Nat.le_of_ble_eq_true rfl) (Nat.le_of_ble_eq_true rfl) 73 rfl dX10_init_71 (fun q8 => ?_)
  refine k_putF 0 rfl rfl in_X10 15 (Nat.le_of_ble_eq_true rfl) kf_X10_35 rfl rfl tyX10 tyX10_ok nmX10 rfl rfl (Nat.le_of_ble_eq_true rfl) [(h0, .inr (8, [.int 0, .ref q1, .ref q2, .int 0, .ref q3, .int 0, .ref q4, .ref q5, .int 0, .int 0, .int (-1), .int 0, .ref q6, .int 0, .ref q7, .ref q8, .null, .null, .null, .int 0, .int 0, .int 0])), (q1, ac (cy 0) 490 (fun _ => 0)), (q2, ac (cy 0) 3920 (fun _ => 0)), (q3, ac (cy 0) 490 (fun _ => 0)), (q4, ac (cy 0) 490 (fun _ => 0)), (q5, ac (cy 0) 60 (fun _ => 0)), (q6, ac (cy 0) 120 (fun _ => 0)), (q7, ac (cy 0) 5 (fun _ => 0)), (q8, ac (cy 0) 6 (fun _ => 0))] rfl 76 rfl dX10_init_73 ?_
  refine k_aload 0 rfl rfl 77 rfl dX10_init_76 ?_
  refine k_bipush (6) 79 rfl dX10_init_77 (by decide) ?_
  refine k_newi (N' := 6) kw_arr_int (by decide) (by decide) (Nat.le_of_ble_eq_true rfl) (Nat.le_of_ble_eq_true rfl) (Nat.le_of_ble_eq_true rfl) 81 rfl dX10_init_79 (fun q9 => ?_)
  refine k_putF 0 rfl rfl in_X10 16 (Nat.le_of_ble_eq_true rfl) kf_X10_38 rfl rfl tyX10 tyX10_ok nmX10 rfl rfl (Nat.le_of_ble_eq_true rfl) [(h0, .inr (8, [.int 0, .ref q1, .ref q2, .int 0, .ref q3, .int 0, .ref q4, .ref q5, .int 0, .int 0, .int (-1), .int 0, .ref q6, .int 0, .ref q7, .ref q8, .ref q9, .null, .null, .int 0, .int 0, .int 0])), (q1, ac (cy 0) 490 (fun _ => 0)), (q2, ac (cy 0) 3920 (fun _ => 0)), (q3, ac (cy 0) 490 (fun _ => 0)), (q4, ac (cy 0) 490 (fun _ => 0)), (q5, ac (cy 0) 60 (fun _ => 0)), (q6, ac (cy 0) 120 (fun _ => 0)), (q7, ac (cy 0) 5 (fun _ => 0)), (q8, ac (cy 0) 6 (fun _ => 0)), (q9, ac (cy 0) 6 (fun _ => 0))] rfl 84 rfl dX10_init_81 ?_
  refine k_aload 0 rfl rfl 85 rfl dX10_init_84 ?_
  refine k_bipush (6) 87 rfl dX10_init_85 (by decide) ?_
  refine k_newi (N' := 6) kw_arr_int (by decide) (by decide) (Nat.le_of_ble_eq_true rfl) (Nat.le_of_ble_eq_true rfl) (Nat.le_of_ble_eq_true rfl) 89 rfl dX10_init_87 (fun q10 => ?_)
  refine k_putF 0 rfl rfl in_X10 17 (Nat.le_of_ble_eq_true rfl) kf_X10_41 rfl rfl tyX10 tyX10_ok nmX10 rfl rfl (Nat.le_of_ble_eq_true rfl) [(h0, .inr (8, [.int 0, .ref q1, .ref q2, .int 0, .ref q3, .int 0, .ref q4, .ref q5, .int 0, .int 0, .int (-1), .int 0, .ref q6, .int 0, .ref q7, .ref q8, .ref q9, .ref q10, .null, .int 0, .int 0, .int 0])), (q1, ac (cy 0) 490 (fun _ => 0)), (q2, ac (cy 0) 3920 (fun _ => 0)), (q3, ac (cy 0) 490 (fun _ => 0)), (q4, ac (cy 0) 490 (fun _ => 0)), (q5, ac (cy 0) 60 (fun _ => 0)), (q6, ac (cy 0) 120 (fun _ => 0)), (q7, ac (cy 0) 5 (fun _ => 0)), (q8, ac (cy 0) 6 (fun _ => 0)), (q9, ac (cy 0) 6 (fun _ => 0)), (q10, ac (cy 0) 6 (fun _ => 0))] rfl 92 rfl dX10_init_89 ?_
  refine k_aload 0 rfl rfl 93 rfl dX10_init_92 ?_
  refine k_bipush (120) 95 rfl dX10_init_93 (by decide) ?_
  refine k_newi (N' := 120) kw_arr_int (by decide) (by decide) (Nat.le_of_ble_eq_true rfl) (Nat.le_of_ble_eq_true rfl) (Nat.le_of_ble_eq_true rfl) 97 rfl dX10_init_95 (fun q11 => ?_)
  refine k_putF 0 rfl rfl in_X10 18 (Nat.le_of_ble_eq_true rfl) kf_X10_44 rfl rfl tyX10 tyX10_ok nmX10 rfl rfl (Nat.le_of_ble_eq_true rfl) [(h0, .inr (8, [.int 0, .ref q1, .ref q2, .int 0, .ref q3, .int 0, .ref q4, .ref q5, .int 0, .int 0, .int (-1), .int 0, .ref q6, .int 0, .ref q7, .ref q8, .ref q9, .ref q10, .ref q11, .int 0, .int 0, .int 0])), (q1, ac (cy 0) 490 (fun _ => 0)), (q2, ac (cy 0) 3920 (fun _ => 0)), (q3, ac (cy 0) 490 (fun _ => 0)), (q4, ac (cy 0) 490 (fun _ => 0)), (q5, ac (cy 0) 60 (fun _ => 0)), (q6, ac (cy 0) 120 (fun _ => 0)), (q7, ac (cy 0) 5 (fun _ => 0)), (q8, ac (cy 0) 6 (fun _ => 0)), (q9, ac (cy 0) 6 (fun _ => 0)), (q10, ac (cy 0) 6 (fun _ => 0)), (q11, ac (cy 0) 120 (fun _ => 0))] rfl 100 rfl dX10_init_97 ?_
  refine k_aload 0 rfl rfl 101 rfl dX10_init_100 ?_
  refine k_get 0 rfl rfl in_X10 1 (Nat.le_of_ble_eq_true rfl) kf_X10_9 rfl 104 rfl dX10_init_101 ?_
  refine k_iconst (0) 105 rfl dX10_init_104 (by decide) ?_
  refine k_bipush (60) 107 rfl dX10_init_105 (by decide) ?_
  refine k_iast 1 rfl (inb_in (by decide)) [(h0, .inr (8, [.int 0, .ref q1, .ref q2, .int 0, .ref q3, .int 0, .ref q4, .ref q5, .int 0, .int 0, .int (-1), .int 0, .ref q6, .int 0, .ref q7, .ref q8, .ref q9, .ref q10, .ref q11, .int 0, .int 0, .int 0])), (q1, ac (cy 0) 490 (upd (fun _ => 0) (0 : Int32).toNatClampNeg (60))), (q2, ac (cy 0) 3920 (fun _ => 0)), (q3, ac (cy 0) 490 (fun _ => 0)), (q4, ac (cy 0) 490 (fun _ => 0)), (q5, ac (cy 0) 60 (fun _ => 0)), (q6, ac (cy 0) 120 (fun _ => 0)), (q7, ac (cy 0) 5 (fun _ => 0)), (q8, ac (cy 0) 6 (fun _ => 0)), (q9, ac (cy 0) 6 (fun _ => 0)), (q10, ac (cy 0) 6 (fun _ => 0)), (q11, ac (cy 0) 120 (fun _ => 0))] rfl 108 rfl dX10_init_107 ?_
  refine k_aload 0 rfl rfl 109 rfl dX10_init_108 ?_
  refine k_get 0 rfl rfl in_X10 1 (Nat.le_of_ble_eq_true rfl) kf_X10_9 rfl 112 rfl dX10_init_109 ?_
  refine k_iconst (1) 113 rfl dX10_init_112 (by decide) ?_
  refine k_bipush (14) 115 rfl dX10_init_113 (by decide) ?_
  refine k_iast 1 rfl (inb_in (by decide)) [(h0, .inr (8, [.int 0, .ref q1, .ref q2, .int 0, .ref q3, .int 0, .ref q4, .ref q5, .int 0, .int 0, .int (-1), .int 0, .ref q6, .int 0, .ref q7, .ref q8, .ref q9, .ref q10, .ref q11, .int 0, .int 0, .int 0])), (q1, ac (cy 0) 490 (upd (upd (fun _ => 0) (0 : Int32).toNatClampNeg (60)) (1 : Int32).toNatClampNeg (14))), (q2, ac (cy 0) 3920 (fun _ => 0)), (q3, ac (cy 0) 490 (fun _ => 0)), (q4, ac (cy 0) 490 (fun _ => 0)), (q5, ac (cy 0) 60 (fun _ => 0)), (q6, ac (cy 0) 120 (fun _ => 0)), (q7, ac (cy 0) 5 (fun _ => 0)), (q8, ac (cy 0) 6 (fun _ => 0)), (q9, ac (cy 0) 6 (fun _ => 0)), (q10, ac (cy 0) 6 (fun _ => 0)), (q11, ac (cy 0) 120 (fun _ => 0))] rfl 116 rfl dX10_init_115 ?_
  exact k_ret ⟨(fun k => match k with | 0 => h0 | 1 => q1 | 2 => q2 | 3 => q3 | 4 => q4 | 5 => q5 | 6 => q6 | 7 => q7 | 8 => q8 | 9 => q9 | 10 => q10 | _ => q11), rfl, rfl⟩ (Nat.le_of_ble_eq_true rfl) (Nat.le_of_ble_eq_true rfl) dX10_init_116
