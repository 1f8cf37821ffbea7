/-! blocks of State and History -/
def fmS (cy : Nat → ClassId) (al : Nat → Nat) (t : Nat) (o : Nat) : (Nat → Int32) → va_E := match o with
  | 0 => oc 5 [none, none, none, none, rz al (t + 1)]
  | 1 => fun _ => rfs (cy 2) 4 (fun k => if k < 4 then some (al (t + 2 + 10 * k)) else none)
  | k + 2 => fmJ cy al (t + 2 + 10 * (k / 10)) (k % 10)
def MS (o : Nat) : Nat → Int32 := match o with
  | 0 => fun k => if k = 0 then 60 else if k = 1 then 14 else 0
  | 1 => fun _ => 0
  | k + 2 => MJ (k % 10)
def gS (cy : Nat → ClassId) (al : Nat → Nat) (o : Nat) : Nat × va_E := (al o, fmS cy al 0 o (MS o))
def BS (cy : Nat → ClassId) (q : Nat) (ws : va_W) : Prop := ∃ al : Nat → Nat, al 0 = q ∧ ws = wl 42 (gS cy al)
def WS (cy : Nat → ClassId) (h0 arr : Nat) (al : Nat → Nat → Nat) (i : Nat) : va_W := (h0, .inr (5, [.int 60, .int 14, .int 0, .int 0, .ref arr])) :: (arr, rfs (cy 2) 4 (fun k => if k < i then some (al k 0) else none)) :: bks 10 (fun k o => gJ cy (al k) o) i
theorem rz_eq {a b : Nat → Nat} {i j : Nat} (h : a i = b j) : rz a i = rz b j := by
  unfold rz; rw [h]
theorem fmJ_sh {cy : Nat → ClassId} {ad al : Nat → Nat} {j j' : Nat} (h : ∀ i, i < 10 → ad (j + i) = al (j' + i)) : ∀ o, fmJ cy ad j o = fmJ cy al j' o
  | 0 => by
    show oc 1 _ = oc 1 _
    rw [rz_eq (h 1 (by omega)), rz_eq (h 2 (by omega)), rz_eq (h 3 (by omega)), rz_eq (h 4 (by omega)), rz_eq (h 5 (by omega)), rz_eq (h 6 (by omega)), rz_eq (h 7 (by omega)), rz_eq (h 8 (by omega)), rz_eq (h 9 (by omega))]
  | 1 => rfl
  | 2 => rfl
  | 3 => rfl
  | 4 => rfl
  | 5 => rfl
  | 6 => rfl
  | 7 => rfl
  | _ + 8 => rfl
theorem fmS_sh {cy : Nat → ClassId} {ad al : Nat → Nat} {t t' : Nat} (h : ∀ i, i < 42 → ad (t + i) = al (t' + i)) : ∀ o, o < 42 → fmS cy ad t o = fmS cy al t' o
  | 0, _ => by
    show oc 5 _ = oc 5 _
    rw [rz_eq (h 1 (by omega))]
  | 1, _ => by
    show (fun _ => rfs (cy 2) 4 _) = (fun _ => rfs (cy 2) 4 _)
    congr 1
    funext f
    congr 6
    funext k
    by_cases hk : k < 4
    · rw [if_pos hk, if_pos hk, show t + 2 + 10 * k = t + (2 + 10 * k) by omega, show t' + 2 + 10 * k = t' + (2 + 10 * k) by omega, h _ (by omega)]
    · rw [if_neg hk, if_neg hk]
  | k + 2, hk => by
    show fmJ cy ad (t + 2 + 10 * (k / 10)) (k % 10) = fmJ cy al (t' + 2 + 10 * (k / 10)) (k % 10)
    refine fmJ_sh (fun i hi => ?_) _
    rw [show t + 2 + 10 * (k / 10) + i = t + (2 + 10 * (k / 10) + i) by omega, show t' + 2 + 10 * (k / 10) + i = t' + (2 + 10 * (k / 10) + i) by omega]
    exact h _ (by omega)
theorem WS_end (cy : Nat → ClassId) (h0 arr : Nat) (al : Nat → Nat → Nat) : BS cy h0 (WS cy h0 arr al 4) := by
  obtain ⟨ad, had⟩ : ∃ z : Nat → Nat, z = fun o => if o = 0 then h0 else if o = 1 then arr else al ((o - 2) / 10) ((o - 2) % 10) := ⟨_, rfl⟩
  have e0 : ad 0 = h0 := by rw [had]; rfl
  have e1 : ad 1 = arr := by rw [had]; rfl
  have e2 : ∀ k, ad (2 + k) = al (k / 10) (k % 10) := fun k => by
    rw [had]
    show (if 2 + k = 0 then h0 else if 2 + k = 1 then arr else al ((2 + k - 2) / 10) ((2 + k - 2) % 10)) = _
    rw [if_neg (by omega), if_neg (by omega), show 2 + k - 2 = k by omega]
  refine ⟨ad, e0, ?_⟩
  rw [show 42 = 2 + 40 from rfl, wl_add]
  unfold WS
  rw [bks_wl (by decide)]
  show _ :: _ :: _ = gS cy ad 0 :: gS cy ad 1 :: _
  congr 1
  · show _ = ((ad 0, .inr (5, [.int 60, .int 14, .int 0, .int 0, .ref (ad 1)])) : Nat × va_E)
    rw [e0, e1]
  · congr 1
    · show _ = (ad 1, rfs (cy 2) 4 (fun k => if k < 4 then some (ad (0 + 2 + 10 * k)) else none))
      rw [e1]
      congr 7
      funext k
      by_cases hk : k < 4
      · rw [if_pos hk, if_pos hk, show 0 + 2 + 10 * k = 2 + 10 * k by omega, e2, show 10 * k / 10 = k by omega, show 10 * k % 10 = 0 by omega]
      · rw [if_neg hk, if_neg hk]
    · refine wl_congr (fun k hk => ?_)
      rw [Nat.add_comm 2 k]
      show (al (k / 10) (k % 10), fmJ cy (al (k / 10)) 0 (k % 10) (MJ (k % 10))) = (ad (k + 2), fmJ cy ad (0 + 2 + 10 * (k / 10)) (k % 10) (MJ (k % 10)))
      rw [Nat.add_comm k 2, e2, fmJ_sh (ad := ad) (al := al (k / 10)) (j' := 0) (fun i hi => by rw [show 0 + 2 + 10 * (k / 10) + i = 2 + (10 * (k / 10) + i) by omega, e2, show (10 * (k / 10) + i) / 10 = k / 10 by omega, show (10 * (k / 10) + i) % 10 = i by omega, Nat.zero_add])]
theorem WS_step {cy : Nat → ClassId} {h0 arr q : Nat} {al : Nat → Nat → Nat} {a' : Nat → Nat} {i : Nat} (hq : a' 0 = q) {x : Nat} (hx : x = i) : (WS cy h0 arr al i ++ wl 10 (gJ cy a')).set 1 (arr, rfs (cy 2) 4 (va_up (fun k => if k < i then some (al k 0) else none) x (some q))) = WS cy h0 arr (fun k => if k = i then a' else al k) (i + 1) := by
  subst hx
  show _ :: _ :: (bks 10 (fun k o => gJ cy (al k) o) x ++ wl 10 (gJ cy a')) = _ :: _ :: (bks 10 (fun k o => gJ cy (if k = x then a' else al k) o) x ++ wl 10 (fun o => gJ cy (if x = x then a' else al x) o))
  rw [bks_congr (g := fun k o => gJ cy (al k) o) (g' := fun k o => gJ cy (if k = x then a' else al k) o) x (fun k hk o _ => by show gJ cy (al k) o = gJ cy (if k = x then a' else al k) o; rw [if_neg (show ¬ k = x by omega)]), if_pos rfl]
  congr 2
  congr 7
  funext k
  show (if k = x then some q else if k < x then some (al k 0) else none) = if k < x + 1 then some ((if k = x then a' else al k) 0) else none
  by_cases h : k = x
  · rw [if_pos h, if_pos (by omega), if_pos h, hq]
  · rw [if_neg h, if_neg h]
    by_cases h2 : k < x
    · rw [if_pos h2, if_pos (by omega)]
    · rw [if_neg h2, if_neg (by omega)]
theorem kd_X1 : ∀ j, j < 3 → defaultValue (tyX1 j) = vp_V [.int 0, .int 0, .null] j := fun j hj => by
  rcases (show j = 0 ∨ j = 1 ∨ j = 2 by omega) with rfl | rfl | rfl <;> rfl
theorem kd_X2 : ∀ j, j < 18 → defaultValue (tyX2 j) = vp_V [.int 0, .int 0, .int 0, .int 0, .int 0, .int 0, .int 0, .int 0, .int 0, .null, .null, .null, .null, .null, .null, .null, .null, .null] j := fun j hj => by
  rcases (show j = 0 ∨ j = 1 ∨ j = 2 ∨ j = 3 ∨ j = 4 ∨ j = 5 ∨ j = 6 ∨ j = 7 ∨ j = 8 ∨ j = 9 ∨ j = 10 ∨ j = 11 ∨ j = 12 ∨ j = 13 ∨ j = 14 ∨ j = 15 ∨ j = 16 ∨ j = 17 by omega) with rfl | rfl | rfl | rfl | rfl | rfl | rfl | rfl | rfl | rfl | rfl | rfl | rfl | rfl | rfl | rfl | rfl | rfl <;> rfl
theorem kd_X3 : ∀ j, j < 5 → defaultValue (tyX3 j) = vp_V [.int 0, .null, .null, .null, .null] j := fun j hj => by
  rcases (show j = 0 ∨ j = 1 ∨ j = 2 ∨ j = 3 ∨ j = 4 by omega) with rfl | rfl | rfl | rfl | rfl <;> rfl
theorem kd_X4 : ∀ j, j < 2 → defaultValue (tyX4 j) = vp_V [.int 0, .null] j := fun j hj => by
  rcases (show j = 0 ∨ j = 1 by omega) with rfl | rfl <;> rfl
theorem kd_X5 : ∀ j, j < 8 → defaultValue (tyX5 j) = vp_V [.int 0, .int 0, .int 0, .int 0, .null, .null, .null, .null] j := fun j hj => by
  rcases (show j = 0 ∨ j = 1 ∨ j = 2 ∨ j = 3 ∨ j = 4 ∨ j = 5 ∨ j = 6 ∨ j = 7 by omega) with rfl | rfl | rfl | rfl | rfl | rfl | rfl | rfl <;> rfl
theorem kd_X6 : ∀ j, j < 5 → defaultValue (tyX6 j) = vp_V [.int 0, .int 0, .int 0, .int 0, .null] j := fun j hj => by
  rcases (show j = 0 ∨ j = 1 ∨ j = 2 ∨ j = 3 ∨ j = 4 by omega) with rfl | rfl | rfl | rfl | rfl <;> rfl
theorem kd_X7 : ∀ j, j < 1 → defaultValue (tyX7 j) = vp_V [.null] j := fun j hj => by
  rcases (show j = 0 by omega) with rfl <;> rfl
theorem kf_X6_20 : Cond.fieldLink RX6 20 "SignalRoad$State" "junctions" "[LSignalRoad$Junction;" ∈ UW := tbu (tb1 (List.mem_of_getElem? (i := 145) rfl)) rfl
theorem kc_X6_18 : Cond.classLink RX6 18 RX2 ∈ UW := tbu (tb1 (List.mem_of_getElem? (i := 47) rfl)) rfl
theorem kn_X6_X2 : Cond.instantiable RX2 18 ∈ UW := tbu (tb1 (List.mem_of_getElem? (i := 49) rfl)) rfl
theorem ki_X6_X2 : Cond.initialized RX2 ∈ UW := tbu (tb1 (List.mem_of_getElem? (i := 3) rfl)) rfl
theorem kw_X6_24 : Cond.methodLink RX6 24 yX2_init ∈ UW := tbu (tb1 (List.mem_of_getElem? (i := 50) rfl)) rfl
theorem kI_X6_X2 : Cond.instanceMethod yX2_init ∈ UW := tbu (tb1 (List.mem_of_getElem? (i := 51) rfl)) rfl
theorem kC_X6_X2 : Cond.code yX2_init cX2_init 1 none ∈ UW := tbu (tb1 (List.mem_of_getElem? (i := 52) rfl)) rfl
theorem kw_X6_3 : Cond.methodLink RX6 3 Lib.objectInit ∈ UW := tbu (tb1 (List.mem_of_getElem? (i := 46) rfl)) rfl
theorem kf_X6_9 : Cond.fieldLink RX6 9 "SignalRoad$State" "cycle" "I" ∈ UW := tbu (tb1 (List.mem_of_getElem? (i := 134) rfl)) rfl
theorem kf_X6_15 : Cond.fieldLink RX6 15 "SignalRoad$State" "speed" "I" ∈ UW := tbu (tb1 (List.mem_of_getElem? (i := 137) rfl)) rfl
theorem s_loop {p : Program} {l : Launch} {e : Env} {s : State} {m : MethodId} {args : Array Value} {below : List Frame} {meth : Method} {c : Code} {D : va_G} {cy : Nat → ClassId} {gx : State → Prop} {z0 h0 : Nat} (hG : GxOk gx z0) {arr : Nat} : ∀ (r i : Nat), i + r = 4 → ∀ al, GK p l e s m args below meth c 2 43 41 492 cX6_init 2 RX6 D cy gx z0 h0 (BS cy h0) (1 + 10 * i) (4 + 122 * i) 26 [(1, .int (nI i)), (0, .ref h0)] [] (WS cy h0 arr al i)
  | 0, i, hi, al => by
    have hi4 : i = 4 := by omega
    subst hi4
    refine k_iload 0 rfl rfl 27 rfl dX6_init_26 ?_
    refine k_iconst 4 28 rfl dX6_init_27 (by decide) ?_
    refine k_geT 50 (by decide) (by decide) dX6_init_28 ?_
    exact k_ret (WS_end cy h0 arr al) (by omega) (by omega) dX6_init_50
  | r + 1, i, hi, al => by
    have h4 : ¬ (4 : Int32) ≤ nI i := by
      rcases (show i = 0 ∨ i = 1 ∨ i = 2 ∨ i = 3 by omega) with rfl | rfl | rfl | rfl <;> decide
    have h5 : inb (nI i) 4 = true := by
      rcases (show i = 0 ∨ i = 1 ∨ i = 2 ∨ i = 3 by omega) with rfl | rfl | rfl | rfl <;> decide
    have h6 : nI i + Int32.ofInt 1 = nI (i + 1) := by
      rcases (show i = 0 ∨ i = 1 ∨ i = 2 ∨ i = 3 by omega) with rfl | rfl | rfl | rfl <;> decide
    refine k_iload 0 rfl rfl 27 rfl dX6_init_26 ?_
    refine k_iconst 4 28 rfl dX6_init_27 (by decide) ?_
    refine k_geF 50 (by decide) h4 31 rfl dX6_init_28 ?_
    refine k_aload 1 rfl rfl 32 rfl dX6_init_31 ?_
    refine k_get 0 rfl rfl in_X6 4 (Nat.le_of_ble_eq_true rfl) kf_X6_20 rfl 35 rfl dX6_init_32 ?_
    refine k_iload 0 rfl rfl 36 rfl dX6_init_35 ?_
    refine k_newO (ci := 1) (fs := [.int 0, .int 0, .int 0, .int 0, .int 0, .int 0, .int 0, .int 0, .int 0, .null, .null, .null, .null, .null, .null, .null, .null, .null]) (N := 18) (nL' := 1) (F' := 1) (Lc' := 23) (C' := 9) (S' := 104) (B1 := BJ cy) rfl in_X2 tyX2 tyX2_ok kd_X2 kc_X6_18 kn_X6_X2 ki_X6_X2 ⟨by decide +kernel, by decide +kernel, by decide +kernel⟩ rfl rfl (Or.inl kw_X6_24) kI_X6_X2 kC_X6_X2 (fun q => ct_X2 l hG) ⟨(Nat.le_of_ble_eq_true rfl), (Nat.le_of_ble_eq_true rfl)⟩ (1 + 10 * (i + 1)) (4 + 122 * (i + 1)) (by omega) (by omega) (by omega) (by omega) (Nat.le_of_ble_eq_true rfl) 43 rfl dX6_init_36 dX6_init_39 dX6_init_40 (fun q ws1 hq => ?_)
    obtain ⟨a', hq0, rfl⟩ := hq
    refine k_astq 1 2 (WS cy h0 arr al i).length (r := (RX2, TX2, 18)) (n := 4) (f := fun k => if k < i then some (al k 0) else none) rfl rfl (by rw [List.getElem?_append_right (Nat.le_refl _), Nat.sub_self, wl_get (by decide)]; show some (a' 0, _) = some (q, _); rw [hq0]; rfl) rfl (inb_in h5) _ (WS_step hq0 (nI_clamp (by omega))) 44 rfl dX6_init_43 ?_
    refine k_iinc 0 rfl h6 [(1, .int (nI (i + 1))), (0, .ref h0)] 47 rfl dX6_init_44 (Nat.le_of_ble_eq_true rfl) rfl ?_
    refine k_goto 26 (by decide) dX6_init_47 ?_
    exact s_loop hG r (i + 1) (by omega) _
theorem ct_X6 (l : Launch) {D : va_G} {cy : Nat → ClassId} {gx : State → Prop} {z0 h0 : Nat} (hG : GxOk gx z0) : CtK l yX6_init (.code yX6_init cX6_init 2 none) 2 43 41 492 D cy gx z0 h0 5 [.int 0, .int 0, .int 0, .int 0, .null] (BS cy h0) := by
  refine ofK hG (by decide +kernel) rfl rfl (Nat.le_of_ble_eq_true rfl) (fun p e s m args below meth c => ?_)
  refine k_aload 0 rfl rfl 1 rfl dX6_init_0 ?_
  refine k_obj kw_X6_3 kw_objI kw_objC 4 rfl dX6_init_1 (Nat.le_of_ble_eq_true rfl) (Nat.le_of_ble_eq_true rfl) ?_
  refine k_aload 0 rfl rfl 5 rfl dX6_init_4 ?_
  refine k_bipush (60) 7 rfl dX6_init_5 (by decide) ?_
  refine k_put 0 rfl rfl in_X6 0 (Nat.le_of_ble_eq_true rfl) kf_X6_9 rfl tyX6 tyX6_ok nmX6 rfl rfl (Nat.le_of_ble_eq_true rfl) [(h0, .inr (5, [.int (60), .int 0, .int 0, .int 0, .null]))] rfl 10 rfl dX6_init_7 ?_
  refine k_aload 0 rfl rfl 11 rfl dX6_init_10 ?_
  refine k_bipush (14) 13 rfl dX6_init_11 (by decide) ?_
  refine k_put 0 rfl rfl in_X6 1 (Nat.le_of_ble_eq_true rfl) kf_X6_15 rfl tyX6 tyX6_ok nmX6 rfl rfl (Nat.le_of_ble_eq_true rfl) [(h0, .inr (5, [.int (60), .int (14), .int 0, .int 0, .null]))] rfl 16 rfl dX6_init_13 ?_
  refine k_aload 0 rfl rfl 17 rfl dX6_init_16 ?_
  refine k_iconst (4) 18 rfl dX6_init_17 (by decide) ?_
  refine k_newq (N' := 4) 2 rfl (fun U h => (hG.2.2.2.1 U h).1) kc_X6_18 (by decide) (by decide) (Nat.le_of_ble_eq_true rfl) (Nat.le_of_ble_eq_true rfl) (Nat.le_of_ble_eq_true rfl) 21 rfl dX6_init_18 (fun q1 => ?_)
  refine k_putF 0 rfl rfl in_X6 4 (Nat.le_of_ble_eq_true rfl) kf_X6_20 rfl rfl tyX6 tyX6_ok nmX6 rfl rfl (Nat.le_of_ble_eq_true rfl) [(h0, .inr (5, [.int (60), .int (14), .int 0, .int 0, .ref q1])), (q1, rfs (cy 2) 4 (fun _ => none))] rfl 24 rfl dX6_init_21 ?_
  refine k_iconst (0) 25 rfl dX6_init_24 (by decide) ?_
  refine k_istore [(1, .int 0), (0, .ref h0)] rfl 26 rfl dX6_init_25 (Nat.le_of_ble_eq_true rfl) rfl ?_
  exact s_loop hG 4 0 rfl (fun _ _ => 0)
