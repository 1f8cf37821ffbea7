/-! blocks of History -/
def fmH (cy : Nat → ClassId) (al : Nat → Nat) (o : Nat) : (Nat → Int32) → va_E := if o < 336 then fmS cy al (42 * (o / 42)) (o % 42) else match o - 336 with
  | 0 => oc 0 [none, none, rz al 337]
  | _ => fun _ => rfs (cy 3) 8 (fun k => if k < 8 then some (al (42 * k)) else none)
def MH (o : Nat) : Nat → Int32 := if o < 336 then MS (o % 42) else fun _ => 0
def gH (cy : Nat → ClassId) (al : Nat → Nat) (o : Nat) : Nat × va_E := (al o, fmH cy al o (MH o))
def BH (cy : Nat → ClassId) (q : Nat) (ws : va_W) : Prop := ∃ al : Nat → Nat, al 336 = q ∧ ws = wl 338 (gH cy al)
def WH0 (h0 arr : Nat) (cy : Nat → ClassId) (al : Nat → Nat → Nat) (i : Nat) : va_W := [(h0, .inr (0, [.int 0, .int 0, .ref arr])), (arr, rfs (cy 3) 8 (fun k => if k < i then some (al k 0) else none))]
def WH (cy : Nat → ClassId) (h0 arr : Nat) (al : Nat → Nat → Nat) (i : Nat) : va_W := (h0, .inr (0, [.int 0, .int 0, .ref arr])) :: (arr, rfs (cy 3) 8 (fun k => if k < i then some (al k 0) else none)) :: bks 42 (fun k o => gS cy (al k) o) i
theorem WH_end (cy : Nat → ClassId) (h0 arr : Nat) (al : Nat → Nat → Nat) : BH cy h0 (([] ++ bks 42 (fun k o => gS cy (al k) o) 8) ++ WH0 h0 arr cy al 8) := by
  obtain ⟨ad, had⟩ : ∃ z : Nat → Nat, z = fun o => if o = 336 then h0 else if o = 337 then arr else al (o / 42) (o % 42) := ⟨_, rfl⟩
  have e0 : ad 336 = h0 := by rw [had]; rfl
  have e1 : ad 337 = arr := by rw [had]; rfl
  have e2 : ∀ k, k < 336 → ad k = al (k / 42) (k % 42) := fun k hk => by
    rw [had]
    show (if k = 336 then h0 else if k = 337 then arr else al (k / 42) (k % 42)) = _
    rw [if_neg (by omega), if_neg (by omega)]
  refine ⟨ad, e0, ?_⟩
  rw [show 338 = 42 * 8 + 2 from rfl, wl_add, bks_wl (by decide), List.nil_append]
  congr 1
  · refine wl_congr (fun k hk => ?_)
    show (al (k / 42) (k % 42), fmS cy (al (k / 42)) 0 (k % 42) (MS (k % 42))) = (ad k, fmH cy ad k (MH k))
    unfold fmH MH
    rw [if_pos (show k < 336 from hk), if_pos (show k < 336 from hk), e2 k hk, fmS_sh (ad := ad) (al := al (k / 42)) (t := 42 * (k / 42)) (t' := 0) (fun i hi => by rw [e2 _ (by omega), show (42 * (k / 42) + i) / 42 = k / 42 by omega, show (42 * (k / 42) + i) % 42 = i by omega, Nat.zero_add]) (k % 42) (by omega)]
  · show [_, _] = [gH cy ad 336, gH cy ad 337]
    congr 1
    · show _ = ((ad 336, .inr (0, [.int 0, .int 0, .ref (ad 337)])) : Nat × va_E)
      rw [e0, e1]
    · congr 1
      show _ = ((ad 337, rfs (cy 3) 8 (fun k => if k < 8 then some (ad (42 * k)) else none)) : Nat × va_E)
      rw [e1]
      congr 7
      funext k
      by_cases hk : k < 8
      · rw [if_pos hk, if_pos hk, e2 _ (by omega), show 42 * k / 42 = k by omega, show 42 * k % 42 = 0 by omega]
      · rw [if_neg hk, if_neg hk]
theorem WH_step {cy : Nat → ClassId} {h0 arr q : Nat} {al : Nat → Nat → Nat} {a' : Nat → Nat} {i : Nat} (hq : a' 0 = q) {x : Nat} (hx : x = i) : (WH cy h0 arr al i ++ wl 42 (gS cy a')).set 1 (arr, rfs (cy 3) 8 (va_up (fun k => if k < i then some (al k 0) else none) x (some q))) = WH cy h0 arr (fun k => if k = i then a' else al k) (i + 1) := by
  subst hx
  show _ :: _ :: (bks 42 (fun k o => gS cy (al k) o) x ++ wl 42 (gS cy a')) = _ :: _ :: (bks 42 (fun k o => gS cy (if k = x then a' else al k) o) x ++ wl 42 (fun o => gS cy (if x = x then a' else al x) o))
  rw [bks_congr (g := fun k o => gS cy (al k) o) (g' := fun k o => gS cy (if k = x then a' else al k) o) x (fun k hk o _ => by show gS cy (al k) o = gS cy (if k = x then a' else al k) o; rw [if_neg (show ¬ k = x by omega)]), if_pos rfl]
  congr 2
  congr 7
  funext k
  show (if k = x then some q else if k < x then some (al k 0) else none) = if k < x + 1 then some ((if k = x then a' else al k) 0) else none
  by_cases h : k = x
  · rw [if_pos h, if_pos (by omega), if_pos h, hq]
  · rw [if_neg h, if_neg h]
    by_cases h2 : k < x
    · rw [if_pos h2, if_pos (by omega)]
    · rw [if_neg h2, if_neg (by omega)]
theorem kf_X1_11 : Cond.fieldLink RX1 11 "SignalRoad$History" "states" "[LSignalRoad$State;" ∈ UW := tbu (tb1 (List.mem_of_getElem? (i := 170) rfl)) rfl
theorem kc_X1_9 : Cond.classLink RX1 9 RX6 ∈ UW := tbu (tb1 (List.mem_of_getElem? (i := 164) rfl)) rfl
theorem kn_X1_X6 : Cond.instantiable RX6 5 ∈ UW := tbu (tb1 (List.mem_of_getElem? (i := 42) rfl)) rfl
theorem ki_X1_X6 : Cond.initialized RX6 ∈ UW := tbu (tb1 (List.mem_of_getElem? (i := 2) rfl)) rfl
theorem kw_X1_17 : Cond.methodLink RX1 17 yX6_init ∈ UW := tbu (tb1 (List.mem_of_getElem? (i := 166) rfl)) rfl
theorem kI_X1_X6 : Cond.instanceMethod yX6_init ∈ UW := tbu (tb1 (List.mem_of_getElem? (i := 44) rfl)) rfl
theorem kC_X1_X6 : Cond.code yX6_init cX6_init 2 none ∈ UW := tbu (tb1 (List.mem_of_getElem? (i := 45) rfl)) rfl
theorem kw_X1_3 : Cond.methodLink RX1 3 Lib.objectInit ∈ UW := tbu (tb1 (List.mem_of_getElem? (i := 163) rfl)) rfl
theorem h_loop {p : Program} {l : Launch} {e : Env} {s : State} {m : MethodId} {args : Array Value} {below : List Frame} {meth : Method} {c : Code} {D : va_G} {cy : Nat → ClassId} {gx : State → Prop} {z0 h0 : Nat} (hG : GxOk gx z0) {arr : Nat} : ∀ (r i : Nat), i + r = 8 → ∀ al, GK p l e s m args below meth c 3 64 337 3984 cX1_init 2 RX1 D cy gx z0 h0 (BH cy h0) (1 + 42 * i) (8 + 497 * i) 15 [(1, .int (nI i)), (0, .ref h0)] [] (WH cy h0 arr al i)
  | 0, i, hi, al => by
    have hi4 : i = 8 := by omega
    subst hi4
    refine k_iload 0 rfl rfl 16 rfl dX1_init_15 ?_
    refine k_bipush 8 18 rfl dX1_init_16 (by decide) ?_
    refine k_geT 40 (by decide) (by decide) dX1_init_18 ?_
    exact k_retS (a := []) (b1 := WH0 h0 arr cy al 8) (b2 := bks 42 (fun k o => gS cy (al k) o) 8) rfl (WH_end cy h0 arr al) (by omega) (by omega) dX1_init_40
  | r + 1, i, hi, al => by
    have h4 : ¬ (8 : Int32) ≤ nI i := by
      rcases (show i = 0 ∨ i = 1 ∨ i = 2 ∨ i = 3 ∨ i = 4 ∨ i = 5 ∨ i = 6 ∨ i = 7 by omega) with rfl | rfl | rfl | rfl | rfl | rfl | rfl | rfl <;> decide
    have h5 : inb (nI i) 8 = true := by
      rcases (show i = 0 ∨ i = 1 ∨ i = 2 ∨ i = 3 ∨ i = 4 ∨ i = 5 ∨ i = 6 ∨ i = 7 by omega) with rfl | rfl | rfl | rfl | rfl | rfl | rfl | rfl <;> decide
    have h6 : nI i + Int32.ofInt 1 = nI (i + 1) := by
      rcases (show i = 0 ∨ i = 1 ∨ i = 2 ∨ i = 3 ∨ i = 4 ∨ i = 5 ∨ i = 6 ∨ i = 7 by omega) with rfl | rfl | rfl | rfl | rfl | rfl | rfl | rfl <;> decide
    refine k_iload 0 rfl rfl 16 rfl dX1_init_15 ?_
    refine k_bipush 8 18 rfl dX1_init_16 (by decide) ?_
    refine k_geF 40 (by decide) h4 21 rfl dX1_init_18 ?_
    refine k_aload 1 rfl rfl 22 rfl dX1_init_21 ?_
    refine k_get 0 rfl rfl in_X1 2 (Nat.le_of_ble_eq_true rfl) kf_X1_11 rfl 25 rfl dX1_init_22 ?_
    refine k_iload 0 rfl rfl 26 rfl dX1_init_25 ?_
    refine k_newO (ci := 5) (fs := [.int 0, .int 0, .int 0, .int 0, .null]) (N := 5) (nL' := 2) (F' := 2) (Lc' := 43) (C' := 41) (S' := 492) (B1 := BS cy) rfl in_X6 tyX6 tyX6_ok kd_X6 kc_X1_9 kn_X1_X6 ki_X1_X6 ⟨by decide +kernel, by decide +kernel, by decide +kernel⟩ rfl rfl (Or.inl kw_X1_17) kI_X1_X6 kC_X1_X6 (fun q => ct_X6 l hG) ⟨(Nat.le_of_ble_eq_true rfl), (Nat.le_of_ble_eq_true rfl)⟩ (1 + 42 * (i + 1)) (8 + 497 * (i + 1)) (by omega) (by omega) (by omega) (by omega) (Nat.le_of_ble_eq_true rfl) 33 rfl dX1_init_26 dX1_init_29 dX1_init_30 (fun q ws1 hq => ?_)
    obtain ⟨a', hq0, rfl⟩ := hq
    refine k_astq 1 3 (WH cy h0 arr al i).length (r := (RX6, TX6, 5)) (n := 8) (f := fun k => if k < i then some (al k 0) else none) rfl rfl (by rw [List.getElem?_append_right (Nat.le_refl _), Nat.sub_self, wl_get (by decide)]; show some (a' 0, _) = some (q, _); rw [hq0]; rfl) rfl (inb_in h5) _ (WH_step hq0 (nI_clamp (by omega))) 34 rfl dX1_init_33 ?_
    refine k_iinc 0 rfl h6 [(1, .int (nI (i + 1))), (0, .ref h0)] 37 rfl dX1_init_34 (Nat.le_of_ble_eq_true rfl) rfl ?_
    refine k_goto 15 (by decide) dX1_init_37 ?_
    exact h_loop hG r (i + 1) (by omega) _
theorem ct_X1 (l : Launch) {D : va_G} {cy : Nat → ClassId} {gx : State → Prop} {z0 h0 : Nat} (hG : GxOk gx z0) : CtK l yX1_init (.code yX1_init cX1_init 2 none) 3 64 337 3984 D cy gx z0 h0 0 [.int 0, .int 0, .null] (BH cy h0) := by
  refine ofK hG (by decide +kernel) rfl rfl (Nat.le_of_ble_eq_true rfl) (fun p e s m args below meth c => ?_)
  refine k_aload 0 rfl rfl 1 rfl dX1_init_0 ?_
  refine k_obj kw_X1_3 kw_objI kw_objC 4 rfl dX1_init_1 (Nat.le_of_ble_eq_true rfl) (Nat.le_of_ble_eq_true rfl) ?_
  refine k_aload 0 rfl rfl 5 rfl dX1_init_4 ?_
  refine k_bipush (8) 7 rfl dX1_init_5 (by decide) ?_
  refine k_newq (N' := 8) 3 rfl (fun U h => (hG.2.2.2.1 U h).2.1) kc_X1_9 (by decide) (by decide) (Nat.le_of_ble_eq_true rfl) (Nat.le_of_ble_eq_true rfl) (Nat.le_of_ble_eq_true rfl) 10 rfl dX1_init_7 (fun q1 => ?_)
  refine k_putF 0 rfl rfl in_X1 2 (Nat.le_of_ble_eq_true rfl) kf_X1_11 rfl rfl tyX1 tyX1_ok nmX1 rfl rfl (Nat.le_of_ble_eq_true rfl) [(h0, .inr (0, [.int 0, .int 0, .ref q1])), (q1, rfs (cy 3) 8 (fun _ => none))] rfl 13 rfl dX1_init_10 ?_
  refine k_iconst (0) 14 rfl dX1_init_13 (by decide) ?_
  refine k_istore [(1, .int 0), (0, .ref h0)] rfl 15 rfl dX1_init_14 (Nat.le_of_ble_eq_true rfl) rfl ?_
  exact h_loop hG 8 0 rfl (fun _ _ => 0)
