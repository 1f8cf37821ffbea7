/-! the road's cells -/
def fmX (cy : Nat → ClassId) (al : Nat → Nat) (o : Nat) : (Nat → Int32) → va_E :=
  if o < 1 then oc 7 [rz al 1, rz al 43, rz al 85, rz al 463, rz al 465, rz al 470, rz al 472, rz al 477, none, none, none]
  else if o < 463 then fmS cy al (1 + 42 * ((o - 1) / 42)) ((o - 1) % 42)
  else if o < 464 then oc 0 [none, none, rz al 464]
  else if o < 465 then fun _ => rfs (cy 3) 8 (fun k => if k < 8 then some (al (127 + 42 * k)) else none)
  else if o < 470 then fmP cy al 465 (o - 465)
  else if o < 472 then fmT cy al 470 (o - 470)
  else if o < 477 then fmC cy al 472 (o - 472)
  else fmR cy al 477 (o - 477)
def MX0 (o : Nat) : Nat → Int32 := if o < 1 then (fun k => if k = 10 then -1 else 0) else if o < 463 then MS ((o - 1) % 42) else if o = 475 then fun _ => -1 else fun _ => 0
def gX (cy : Nat → ClassId) (al : Nat → Nat) (o : Nat) : Nat × va_E := (al o, fmX cy al o (MX0 o))
def BX (cy : Nat → ClassId) (q : Nat) (ws : va_W) : Prop := ∃ al : Nat → Nat, al 0 = q ∧ ws = wl 479 (gX cy al)
theorem fmP_sh {cy : Nat → ClassId} {ad al : Nat → Nat} {j j' : Nat} (h : ∀ i, i < 5 → ad (j + i) = al (j' + i)) : ∀ o, fmP cy ad j o = fmP cy al j' o
  | 0 => by
    show oc 2 _ = oc 2 _
    rw [rz_eq (h 1 (by omega)), rz_eq (h 2 (by omega)), rz_eq (h 3 (by omega)), rz_eq (h 4 (by omega))]
  | _ + 1 => rfl
theorem fmT_sh {cy : Nat → ClassId} {ad al : Nat → Nat} {j j' : Nat} (h : ∀ i, i < 2 → ad (j + i) = al (j' + i)) : ∀ o, fmT cy ad j o = fmT cy al j' o
  | 0 => by
    show oc 6 _ = oc 6 _
    rw [rz_eq (h 1 (by omega))]
  | _ + 1 => rfl
theorem fmC_sh {cy : Nat → ClassId} {ad al : Nat → Nat} {j j' : Nat} (h : ∀ i, i < 5 → ad (j + i) = al (j' + i)) : ∀ o, fmC cy ad j o = fmC cy al j' o
  | 0 => by
    show oc 4 _ = oc 4 _
    rw [rz_eq (h 1 (by omega)), rz_eq (h 2 (by omega)), rz_eq (h 3 (by omega)), rz_eq (h 4 (by omega))]
  | 1 => rfl
  | 2 => rfl
  | 3 => rfl
  | _ + 4 => rfl
theorem fmR_sh {cy : Nat → ClassId} {ad al : Nat → Nat} {j j' : Nat} (h : ∀ i, i < 2 → ad (j + i) = al (j' + i)) : ∀ o, fmR cy ad j o = fmR cy al j' o
  | 0 => by
    show oc 3 _ = oc 3 _
    rw [rz_eq (h 1 (by omega))]
  | _ + 1 => rfl
theorem fmC_num {cy : Nat → ClassId} {al : Nat → Nat} {j : Nat} {f g : Nat → Int32} : ∀ o, (o = 3 ∨ f = g) → fmC cy al j o f = fmC cy al j o g
  | 3, _ => rfl
  | 0, h => by rw [h.resolve_left (by decide)]
  | 1, h => by rw [h.resolve_left (by decide)]
  | 2, h => by rw [h.resolve_left (by decide)]
  | k + 4, h => by rw [h.resolve_left (by omega)]
theorem gX_S {cy : Nat → ClassId} {ad a : Nat → Nat} {b : Nat} (hb : b < 11) (h : ∀ k, k < 42 → ad (1 + 42 * b + k) = a k) {k : Nat} (hk : k < 42) : gS cy a k = gX cy ad (1 + 42 * b + k) := by
  show (a k, fmS cy a 0 k (MS k)) = (ad (1 + 42 * b + k), fmX cy ad (1 + 42 * b + k) (MX0 (1 + 42 * b + k)))
  unfold fmX MX0
  rw [if_neg (by omega), if_pos (by omega), if_neg (by omega), if_pos (by omega), show (1 + 42 * b + k - 1) / 42 = b by omega, show (1 + 42 * b + k - 1) % 42 = k by omega, h k hk, fmS_sh (ad := ad) (al := a) (t' := 0) (fun i hi => by rw [h i hi, Nat.zero_add]) k hk]
theorem gX_H {cy : Nat → ClassId} {ad a : Nat → Nat} (h : ∀ k, k < 338 → ad (127 + k) = a k) {k : Nat} (hk : k < 338) : gH cy a k = gX cy ad (127 + k) := by
  show (a k, fmH cy a k (MH k)) = (ad (127 + k), fmX cy ad (127 + k) (MX0 (127 + k)))
  rw [h k hk]
  congr 1
  unfold fmX MX0 fmH MH
  by_cases h1 : k < 336
  · rw [if_pos h1, if_pos h1, if_neg (by omega), if_pos (by omega), if_neg (by omega), if_pos (by omega), show (127 + k - 1) / 42 = 3 + k / 42 by omega, show (127 + k - 1) % 42 = k % 42 by omega, fmS_sh (ad := ad) (al := a) (t := 1 + 42 * (3 + k / 42)) (t' := 42 * (k / 42)) (fun i hi => by rw [show 1 + 42 * (3 + k / 42) + i = 127 + (42 * (k / 42) + i) by omega, h _ (by omega)]) (k % 42) (by omega)]
  · rcases (show k = 336 ∨ k = 337 by omega) with rfl | rfl
    · show oc 0 _ _ = oc 0 _ _
      rw [rz_eq (h 337 (by omega))]
      rfl
    · show rfs (cy 3) 8 _ = rfs (cy 3) 8 _
      congr 6
      funext i
      by_cases hi : i < 8
      · rw [if_pos hi, if_pos hi, h _ (by omega)]
      · rw [if_neg hi, if_neg hi]
theorem gX_tail {cy : Nat → ClassId} {ad aP aT aC aR : Nat → Nat} (h1 : ∀ k, k < 5 → ad (465 + k) = aP k) (h2 : ∀ k, k < 2 → ad (470 + k) = aT k) (h3 : ∀ k, k < 5 → ad (472 + k) = aC k) (h4 : ∀ k, k < 2 → ad (477 + k) = aR k) :
    (∀ k, k < 5 → gP cy aP k = gX cy ad (465 + k)) ∧ (∀ k, k < 2 → gT cy aT k = gX cy ad (470 + k)) ∧ (∀ k, k < 5 → gC cy aC k = gX cy ad (472 + k)) ∧ (∀ k, k < 2 → gR cy aR k = gX cy ad (477 + k)) := by
  refine ⟨fun k hk => ?_, fun k hk => ?_, fun k hk => ?_, fun k hk => ?_⟩
  · show (aP k, fmP cy aP 0 k (fun _ => 0)) = (ad (465 + k), fmX cy ad (465 + k) (MX0 (465 + k)))
    unfold fmX MX0
    rw [if_neg (by omega), if_neg (by omega), if_neg (by omega), if_neg (by omega), if_pos (by omega), if_neg (by omega), if_neg (by omega), if_neg (by omega), h1 k hk, Nat.add_sub_cancel_left, fmP_sh (ad := ad) (al := aP) (j' := 0) (fun i hi => by rw [h1 i hi, Nat.zero_add])]
  · show (aT k, fmT cy aT 0 k (fun _ => 0)) = (ad (470 + k), fmX cy ad (470 + k) (MX0 (470 + k)))
    unfold fmX MX0
    rw [if_neg (by omega), if_neg (by omega), if_neg (by omega), if_neg (by omega), if_neg (by omega), if_pos (by omega), if_neg (by omega), if_neg (by omega), if_neg (by omega), h2 k hk, Nat.add_sub_cancel_left, fmT_sh (ad := ad) (al := aT) (j' := 0) (fun i hi => by rw [h2 i hi, Nat.zero_add])]
  · show (aC k, fmC cy aC 0 k (fun _ => 0)) = (ad (472 + k), fmX cy ad (472 + k) (MX0 (472 + k)))
    unfold fmX MX0
    rw [if_neg (by omega), if_neg (by omega), if_neg (by omega), if_neg (by omega), if_neg (by omega), if_neg (by omega), if_pos (by omega), if_neg (by omega), if_neg (by omega), h3 k hk, Nat.add_sub_cancel_left, fmC_sh (ad := ad) (al := aC) (j' := 0) (fun i hi => by rw [h3 i hi, Nat.zero_add])]
    congr 1
    refine fmC_num k ?_
    by_cases hk3 : k = 3
    · exact Or.inl hk3
    · right
      rw [if_neg (by omega)]
  · show (aR k, fmR cy aR 0 k (fun _ => 0)) = (ad (477 + k), fmX cy ad (477 + k) (MX0 (477 + k)))
    unfold fmX MX0
    rw [if_neg (by omega), if_neg (by omega), if_neg (by omega), if_neg (by omega), if_neg (by omega), if_neg (by omega), if_neg (by omega), if_neg (by omega), if_neg (by omega), if_neg (by omega), h4 k hk, Nat.add_sub_cancel_left, fmR_sh (ad := ad) (al := aR) (j' := 0) (fun i hi => by rw [h4 i hi, Nat.zero_add])]
theorem WX_end {cy : Nat → ClassId} {h0 : Nat} {a1 a2 a3 aH aP aT aC aR : Nat → Nat} : BX cy h0 ([(h0, .inr (7, [.ref (a1 0), .ref (a2 0), .ref (a3 0), .ref (aH 336), .ref (aP 0), .ref (aT 0), .ref (aC 0), .ref (aR 0), .int 0, .int 0, .int (-1)]))] ++ wl 42 (gS cy a1) ++ wl 42 (gS cy a2) ++ wl 42 (gS cy a3) ++ wl 338 (gH cy aH) ++ wl 5 (gP cy aP) ++ wl 2 (gT cy aT) ++ wl 5 (gC cy aC) ++ wl 2 (gR cy aR)) := by
  obtain ⟨ad, had⟩ : ∃ z : Nat → Nat, z = fun o => if o < 1 then h0 else if o < 43 then a1 (o - 1) else if o < 85 then a2 (o - 43) else if o < 127 then a3 (o - 85) else if o < 465 then aH (o - 127) else if o < 470 then aP (o - 465) else if o < 472 then aT (o - 470) else if o < 477 then aC (o - 472) else aR (o - 477) := ⟨_, rfl⟩
  have e : ∀ o, ad o = if o < 1 then h0 else if o < 43 then a1 (o - 1) else if o < 85 then a2 (o - 43) else if o < 127 then a3 (o - 85) else if o < 465 then aH (o - 127) else if o < 470 then aP (o - 465) else if o < 472 then aT (o - 470) else if o < 477 then aC (o - 472) else aR (o - 477) := fun o => by rw [had]
  have e0 : ad 0 = h0 := by rw [e]; rfl
  have k1 : ∀ k, k < 42 → ad (1 + 42 * 0 + k) = a1 k := fun k hk => by
    rw [e, if_neg (by omega), if_pos (by omega), show 1 + 42 * 0 + k - 1 = k by omega]
  have k2 : ∀ k, k < 42 → ad (1 + 42 * 1 + k) = a2 k := fun k hk => by
    rw [e, if_neg (by omega), if_neg (by omega), if_pos (by omega), show 1 + 42 * 1 + k - 43 = k by omega]
  have k3 : ∀ k, k < 42 → ad (1 + 42 * 2 + k) = a3 k := fun k hk => by
    rw [e, if_neg (by omega), if_neg (by omega), if_neg (by omega), if_pos (by omega), show 1 + 42 * 2 + k - 85 = k by omega]
  have kH : ∀ k, k < 338 → ad (127 + k) = aH k := fun k hk => by
    rw [e, if_neg (by omega), if_neg (by omega), if_neg (by omega), if_neg (by omega), if_pos (by omega), Nat.add_sub_cancel_left]
  have kP : ∀ k, k < 5 → ad (465 + k) = aP k := fun k hk => by
    rw [e, if_neg (by omega), if_neg (by omega), if_neg (by omega), if_neg (by omega), if_neg (by omega), if_pos (by omega), Nat.add_sub_cancel_left]
  have kT : ∀ k, k < 2 → ad (470 + k) = aT k := fun k hk => by
    rw [e, if_neg (by omega), if_neg (by omega), if_neg (by omega), if_neg (by omega), if_neg (by omega), if_neg (by omega), if_pos (by omega), Nat.add_sub_cancel_left]
  have kC : ∀ k, k < 5 → ad (472 + k) = aC k := fun k hk => by
    rw [e, if_neg (by omega), if_neg (by omega), if_neg (by omega), if_neg (by omega), if_neg (by omega), if_neg (by omega), if_neg (by omega), if_pos (by omega), Nat.add_sub_cancel_left]
  have kR : ∀ k, k < 2 → ad (477 + k) = aR k := fun k hk => by
    rw [e, if_neg (by omega), if_neg (by omega), if_neg (by omega), if_neg (by omega), if_neg (by omega), if_neg (by omega), if_neg (by omega), if_neg (by omega), Nat.add_sub_cancel_left]
  obtain ⟨tP, tT, tC, tR⟩ := gX_tail (cy := cy) kP kT kC kR
  refine ⟨ad, e0, ?_⟩
  rw [show 479 = 1 + 42 + 42 + 42 + 338 + 5 + 2 + 5 + 2 from rfl, wl_add, wl_add, wl_add, wl_add, wl_add, wl_add, wl_add, wl_add]
  congr 1
  · congr 1
    · congr 1
      · congr 1
        · congr 1
          · congr 1
            · congr 1
              · congr 1
                · show _ = [gX cy ad 0]
                  congr 1
                  show _ = ((ad 0, .inr (7, [.ref (ad 1), .ref (ad 43), .ref (ad 85), .ref (ad 463), .ref (ad 465), .ref (ad 470), .ref (ad 472), .ref (ad 477), .int 0, .int 0, .int (-1)])) : Nat × va_E)
                  rw [e0, show ad 1 = a1 0 from k1 0 (by decide), show ad 43 = a2 0 from k2 0 (by decide), show ad 85 = a3 0 from k3 0 (by decide), show ad 463 = aH 336 from kH 336 (by decide), show ad 465 = aP 0 from kP 0 (by decide), show ad 470 = aT 0 from kT 0 (by decide), show ad 472 = aC 0 from kC 0 (by decide), show ad 477 = aR 0 from kR 0 (by decide)]
                · exact wl_congr (fun k hk => gX_S (b := 0) (by decide) k1 hk)
              · exact wl_congr (fun k hk => gX_S (b := 1) (by decide) k2 hk)
            · exact wl_congr (fun k hk => gX_S (b := 2) (by decide) k3 hk)
          · exact wl_congr (fun k hk => gX_H kH hk)
        · exact wl_congr tP
      · exact wl_congr tT
    · exact wl_congr tC
  · exact wl_congr tR
theorem kw_X9_3 : Cond.methodLink RX9 3 Lib.objectInit ∈ UW := tbu (tb1 (List.mem_of_getElem? (i := 38) rfl)) rfl
theorem kc_X9_9 : Cond.classLink RX9 9 RX6 ∈ UW := tbu (tb1 (List.mem_of_getElem? (i := 41) rfl)) rfl
theorem kn_X9_X6 : Cond.instantiable RX6 5 ∈ UW := tbu (tb1 (List.mem_of_getElem? (i := 42) rfl)) rfl
theorem ki_X9_X6 : Cond.initialized RX6 ∈ UW := tbu (tb1 (List.mem_of_getElem? (i := 2) rfl)) rfl
theorem kw_X9_11 : Cond.methodLink RX9 11 yX6_init ∈ UW := tbu (tb1 (List.mem_of_getElem? (i := 43) rfl)) rfl
theorem kI_X9_X6 : Cond.instanceMethod yX6_init ∈ UW := tbu (tb1 (List.mem_of_getElem? (i := 44) rfl)) rfl
theorem kC_X9_X6 : Cond.code yX6_init cX6_init 2 none ∈ UW := tbu (tb1 (List.mem_of_getElem? (i := 45) rfl)) rfl
theorem kf_X9_12 : Cond.fieldLink RX9 12 "SignalRoad" "state" "LSignalRoad$State;" ∈ UW := tbu (tb2 (List.mem_of_getElem? (i := 25) rfl)) rfl
theorem kf_X9_16 : Cond.fieldLink RX9 16 "SignalRoad" "before" "LSignalRoad$State;" ∈ UW := tbu (tb2 (List.mem_of_getElem? (i := 26) rfl)) rfl
theorem kf_X9_19 : Cond.fieldLink RX9 19 "SignalRoad" "saved" "LSignalRoad$State;" ∈ UW := tbu (tb2 (List.mem_of_getElem? (i := 27) rfl)) rfl
theorem kc_X9_22 : Cond.classLink RX9 22 RX1 ∈ UW := tbu (tb1 (List.mem_of_getElem? (i := 158) rfl)) rfl
theorem kn_X9_X1 : Cond.instantiable RX1 3 ∈ UW := tbu (tb1 (List.mem_of_getElem? (i := 159) rfl)) rfl
theorem ki_X9_X1 : Cond.initialized RX1 ∈ UW := tbu (tb1 (List.mem_of_getElem? (i := 5) rfl)) rfl
theorem kw_X9_24 : Cond.methodLink RX9 24 yX1_init ∈ UW := tbu (tb1 (List.mem_of_getElem? (i := 160) rfl)) rfl
theorem kI_X9_X1 : Cond.instanceMethod yX1_init ∈ UW := tbu (tb1 (List.mem_of_getElem? (i := 161) rfl)) rfl
theorem kC_X9_X1 : Cond.code yX1_init cX1_init 2 none ∈ UW := tbu (tb1 (List.mem_of_getElem? (i := 162) rfl)) rfl
theorem kf_X9_25 : Cond.fieldLink RX9 25 "SignalRoad" "history" "LSignalRoad$History;" ∈ UW := tbu (tb2 (List.mem_of_getElem? (i := 28) rfl)) rfl
theorem kc_X9_29 : Cond.classLink RX9 29 RX3 ∈ UW := tbu (tb1 (List.mem_of_getElem? (i := 178) rfl)) rfl
theorem kn_X9_X3 : Cond.instantiable RX3 5 ∈ UW := tbu (tb1 (List.mem_of_getElem? (i := 179) rfl)) rfl
theorem ki_X9_X3 : Cond.initialized RX3 ∈ UW := tbu (tb1 (List.mem_of_getElem? (i := 6) rfl)) rfl
theorem kw_X9_31 : Cond.methodLinkNest RX9 31 yX3_init "SignalRoad" ∈ NW := nw_mem (tb1 (List.mem_of_getElem? (i := 180) rfl)) rfl
theorem kI_X9_X3 : Cond.instanceMethod yX3_init ∈ UW := tbu (tb1 (List.mem_of_getElem? (i := 181) rfl)) rfl
theorem kC_X9_X3 : Cond.code yX3_init cX3_init 1 none ∈ UW := tbu (tb1 (List.mem_of_getElem? (i := 182) rfl)) rfl
theorem kf_X9_32 : Cond.fieldLink RX9 32 "SignalRoad" "phases" "LSignalRoad$Phases;" ∈ UW := tbu (tb2 (List.mem_of_getElem? (i := 29) rfl)) rfl
theorem kc_X9_36 : Cond.classLink RX9 36 RX7 ∈ UW := tbu (tb1 (List.mem_of_getElem? (i := 202) rfl)) rfl
theorem kn_X9_X7 : Cond.instantiable RX7 1 ∈ UW := tbu (tb1 (List.mem_of_getElem? (i := 203) rfl)) rfl
theorem ki_X9_X7 : Cond.initialized RX7 ∈ UW := tbu (tb1 (List.mem_of_getElem? (i := 7) rfl)) rfl
theorem kw_X9_38 : Cond.methodLinkNest RX9 38 yX7_init "SignalRoad" ∈ NW := nw_mem (tb1 (List.mem_of_getElem? (i := 204) rfl)) rfl
theorem kI_X9_X7 : Cond.instanceMethod yX7_init ∈ UW := tbu (tb1 (List.mem_of_getElem? (i := 205) rfl)) rfl
theorem kC_X9_X7 : Cond.code yX7_init cX7_init 1 none ∈ UW := tbu (tb1 (List.mem_of_getElem? (i := 206) rfl)) rfl
theorem kf_X9_39 : Cond.fieldLink RX9 39 "SignalRoad" "trips" "LSignalRoad$Trips;" ∈ UW := tbu (tb2 (List.mem_of_getElem? (i := 30) rfl)) rfl
theorem kc_X9_43 : Cond.classLink RX9 43 RX5 ∈ UW := tbu (tb1 (List.mem_of_getElem? (i := 212) rfl)) rfl
theorem kn_X9_X5 : Cond.instantiable RX5 8 ∈ UW := tbu (tb1 (List.mem_of_getElem? (i := 213) rfl)) rfl
theorem ki_X9_X5 : Cond.initialized RX5 ∈ UW := tbu (tb1 (List.mem_of_getElem? (i := 8) rfl)) rfl
theorem kw_X9_45 : Cond.methodLinkNest RX9 45 yX5_init "SignalRoad" ∈ NW := nw_mem (tb1 (List.mem_of_getElem? (i := 214) rfl)) rfl
theorem kI_X9_X5 : Cond.instanceMethod yX5_init ∈ UW := tbu (tb1 (List.mem_of_getElem? (i := 215) rfl)) rfl
theorem kC_X9_X5 : Cond.code yX5_init cX5_init 1 none ∈ UW := tbu (tb1 (List.mem_of_getElem? (i := 216) rfl)) rfl
theorem kf_X9_46 : Cond.fieldLink RX9 46 "SignalRoad" "script" "LSignalRoad$Script;" ∈ UW := tbu (tb2 (List.mem_of_getElem? (i := 31) rfl)) rfl
theorem kc_X9_50 : Cond.classLink RX9 50 RX4 ∈ UW := tbu (tb2 (List.mem_of_getElem? (i := 10) rfl)) rfl
theorem kn_X9_X4 : Cond.instantiable RX4 2 ∈ UW := tbu (tb2 (List.mem_of_getElem? (i := 11) rfl)) rfl
theorem ki_X9_X4 : Cond.initialized RX4 ∈ UW := tbu (tb1 (List.mem_of_getElem? (i := 9) rfl)) rfl
theorem kw_X9_52 : Cond.methodLinkNest RX9 52 yX4_init "SignalRoad" ∈ NW := nw_mem (tb2 (List.mem_of_getElem? (i := 12) rfl)) rfl
theorem kI_X9_X4 : Cond.instanceMethod yX4_init ∈ UW := tbu (tb2 (List.mem_of_getElem? (i := 13) rfl)) rfl
theorem kC_X9_X4 : Cond.code yX4_init cX4_init 1 none ∈ UW := tbu (tb2 (List.mem_of_getElem? (i := 14) rfl)) rfl
theorem kf_X9_53 : Cond.fieldLink RX9 53 "SignalRoad" "page" "LSignalRoad$Report;" ∈ UW := tbu (tb2 (List.mem_of_getElem? (i := 32) rfl)) rfl
theorem kf_X9_57 : Cond.fieldLink RX9 57 "SignalRoad" "lastReason" "I" ∈ UW := tbu (tb2 (List.mem_of_getElem? (i := 34) rfl)) rfl
theorem kf_X9_61 : Cond.fieldLink RX9 61 "SignalRoad" "lastError" "I" ∈ UW := tbu (tb2 (List.mem_of_getElem? (i := 35) rfl)) rfl
theorem ct_X9 (l : Launch) {D : va_G} {cy : Nat → ClassId} {gx : State → Prop} {z0 h0 : Nat} (hG : GxOk gx z0) : CtK l yX9_init (.code yX9_init cX9_init 1 none) 4 85 478 5864 D cy gx z0 h0 7 [.null, .null, .null, .null, .null, .null, .null, .null, .int 0, .int 0, .int 0] (BX cy h0) := by
  refine ofK hG (by decide +kernel) rfl rfl (Nat.le_of_ble_eq_true rfl) (fun p e s m args below meth c => ?_)
  refine k_aload 0 rfl rfl 1 rfl dX9_init_0 ?_
  refine k_obj kw_X9_3 kw_objI kw_objC 4 rfl dX9_init_1 (Nat.le_of_ble_eq_true rfl) (Nat.le_of_ble_eq_true rfl) ?_
  refine k_aload 0 rfl rfl 5 rfl dX9_init_4 ?_
  refine k_newO (ci := 5) (fs := [.int 0, .int 0, .int 0, .int 0, .null]) (N := 5) (nL' := 2) (F' := 2) (Lc' := 43) (C' := 41) (S' := 492) (B1 := BS cy) rfl in_X6 tyX6 tyX6_ok kd_X6 kc_X9_9 kn_X9_X6 ki_X9_X6 ⟨by decide +kernel, by decide +kernel, by decide +kernel⟩ rfl rfl (Or.inl kw_X9_11) kI_X9_X6 kC_X9_X6 (fun q => ct_X6 l hG) ⟨(Nat.le_of_ble_eq_true rfl), (Nat.le_of_ble_eq_true rfl)⟩ 42 497 (by omega) (by omega) (by omega) (by omega) (Nat.le_of_ble_eq_true rfl) 12 rfl dX9_init_5 dX9_init_8 dX9_init_9 (fun q w1 hw => ?_)
  obtain ⟨a1, rfl, rfl⟩ := hw
  refine k_putF 0 rfl rfl in_X9 0 (Nat.le_of_ble_eq_true rfl) kf_X9_12 rfl rfl tyX9 tyX9_ok nmX9 rfl rfl (Nat.le_of_ble_eq_true rfl) ([(h0, .inr (7, [.ref (a1 0), .null, .null, .null, .null, .null, .null, .null, .int 0, .int 0, .int 0]))] ++ wl 42 (gS cy a1) : va_W) rfl 15 rfl dX9_init_12 ?_
  refine k_aload 0 rfl rfl 16 rfl dX9_init_15 ?_
  refine k_newO (ci := 5) (fs := [.int 0, .int 0, .int 0, .int 0, .null]) (N := 5) (nL' := 2) (F' := 2) (Lc' := 43) (C' := 41) (S' := 492) (B1 := BS cy) rfl in_X6 tyX6 tyX6_ok kd_X6 kc_X9_9 kn_X9_X6 ki_X9_X6 ⟨by decide +kernel, by decide +kernel, by decide +kernel⟩ rfl rfl (Or.inl kw_X9_11) kI_X9_X6 kC_X9_X6 (fun q => ct_X6 l hG) ⟨(Nat.le_of_ble_eq_true rfl), (Nat.le_of_ble_eq_true rfl)⟩ 84 994 (by omega) (by omega) (by omega) (by omega) (Nat.le_of_ble_eq_true rfl) 23 rfl dX9_init_16 dX9_init_19 dX9_init_20 (fun q w1 hw => ?_)
  obtain ⟨a2, rfl, rfl⟩ := hw
  refine k_putF 0 rfl rfl in_X9 1 (Nat.le_of_ble_eq_true rfl) kf_X9_16 rfl rfl tyX9 tyX9_ok nmX9 rfl rfl (Nat.le_of_ble_eq_true rfl) ([(h0, .inr (7, [.ref (a1 0), .ref (a2 0), .null, .null, .null, .null, .null, .null, .int 0, .int 0, .int 0]))] ++ wl 42 (gS cy a1) ++ wl 42 (gS cy a2) : va_W) rfl 26 rfl dX9_init_23 ?_
  refine k_aload 0 rfl rfl 27 rfl dX9_init_26 ?_
  refine k_newO (ci := 5) (fs := [.int 0, .int 0, .int 0, .int 0, .null]) (N := 5) (nL' := 2) (F' := 2) (Lc' := 43) (C' := 41) (S' := 492) (B1 := BS cy) rfl in_X6 tyX6 tyX6_ok kd_X6 kc_X9_9 kn_X9_X6 ki_X9_X6 ⟨by decide +kernel, by decide +kernel, by decide +kernel⟩ rfl rfl (Or.inl kw_X9_11) kI_X9_X6 kC_X9_X6 (fun q => ct_X6 l hG) ⟨(Nat.le_of_ble_eq_true rfl), (Nat.le_of_ble_eq_true rfl)⟩ 126 1491 (by omega) (by omega) (by omega) (by omega) (Nat.le_of_ble_eq_true rfl) 34 rfl dX9_init_27 dX9_init_30 dX9_init_31 (fun q w1 hw => ?_)
  obtain ⟨a3, rfl, rfl⟩ := hw
  refine k_putF 0 rfl rfl in_X9 2 (Nat.le_of_ble_eq_true rfl) kf_X9_19 rfl rfl tyX9 tyX9_ok nmX9 rfl rfl (Nat.le_of_ble_eq_true rfl) ([(h0, .inr (7, [.ref (a1 0), .ref (a2 0), .ref (a3 0), .null, .null, .null, .null, .null, .int 0, .int 0, .int 0]))] ++ wl 42 (gS cy a1) ++ wl 42 (gS cy a2) ++ wl 42 (gS cy a3) : va_W) rfl 37 rfl dX9_init_34 ?_
  refine k_aload 0 rfl rfl 38 rfl dX9_init_37 ?_
  refine k_newO (ci := 0) (fs := [.int 0, .int 0, .null]) (N := 3) (nL' := 2) (F' := 3) (Lc' := 64) (C' := 337) (S' := 3984) (B1 := BH cy) rfl in_X1 tyX1 tyX1_ok kd_X1 kc_X9_22 kn_X9_X1 ki_X9_X1 ⟨by decide +kernel, by decide +kernel, by decide +kernel⟩ rfl rfl (Or.inl kw_X9_24) kI_X9_X1 kC_X9_X1 (fun q => ct_X1 l hG) ⟨(Nat.le_of_ble_eq_true rfl), (Nat.le_of_ble_eq_true rfl)⟩ 464 5478 (by omega) (by omega) (by omega) (by omega) (Nat.le_of_ble_eq_true rfl) 45 rfl dX9_init_38 dX9_init_41 dX9_init_42 (fun q w1 hw => ?_)
  obtain ⟨aH, rfl, rfl⟩ := hw
  refine k_putF 0 rfl rfl in_X9 3 (Nat.le_of_ble_eq_true rfl) kf_X9_25 rfl rfl tyX9 tyX9_ok nmX9 rfl rfl (Nat.le_of_ble_eq_true rfl) ([(h0, .inr (7, [.ref (a1 0), .ref (a2 0), .ref (a3 0), .ref (aH 336), .null, .null, .null, .null, .int 0, .int 0, .int 0]))] ++ wl 42 (gS cy a1) ++ wl 42 (gS cy a2) ++ wl 42 (gS cy a3) ++ wl 338 (gH cy aH) : va_W) rfl 48 rfl dX9_init_45 ?_
  refine k_aload 0 rfl rfl 49 rfl dX9_init_48 ?_
  refine k_newO (ci := 2) (fs := [.int 0, .null, .null, .null, .null]) (N := 5) (nL' := 1) (F' := 1) (Lc' := 12) (C' := 4) (S' := 24) (B1 := BP cy) rfl in_X3 tyX3 tyX3_ok kd_X3 kc_X9_29 kn_X9_X3 ki_X9_X3 ⟨by decide +kernel, by decide +kernel, by decide +kernel⟩ rfl rfl (Or.inr ⟨_, kw_X9_31⟩) kI_X9_X3 kC_X9_X3 (fun q => ct_X3 l hG) ⟨(Nat.le_of_ble_eq_true rfl), (Nat.le_of_ble_eq_true rfl)⟩ 469 5507 (by omega) (by omega) (by omega) (by omega) (Nat.le_of_ble_eq_true rfl) 56 rfl dX9_init_49 dX9_init_52 dX9_init_53 (fun q w1 hw => ?_)
  obtain ⟨aP, rfl, rfl⟩ := hw
  refine k_putF 0 rfl rfl in_X9 4 (Nat.le_of_ble_eq_true rfl) kf_X9_32 rfl rfl tyX9 tyX9_ok nmX9 rfl rfl (Nat.le_of_ble_eq_true rfl) ([(h0, .inr (7, [.ref (a1 0), .ref (a2 0), .ref (a3 0), .ref (aH 336), .ref (aP 0), .null, .null, .null, .int 0, .int 0, .int 0]))] ++ wl 42 (gS cy a1) ++ wl 42 (gS cy a2) ++ wl 42 (gS cy a3) ++ wl 338 (gH cy aH) ++ wl 5 (gP cy aP) : va_W) rfl 59 rfl dX9_init_56 ?_
  refine k_aload 0 rfl rfl 60 rfl dX9_init_59 ?_
  refine k_newO (ci := 6) (fs := [.null]) (N := 1) (nL' := 1) (F' := 1) (Lc' := 12) (C' := 1) (S' := 120) (B1 := BT cy) rfl in_X7 tyX7 tyX7_ok kd_X7 kc_X9_36 kn_X9_X7 ki_X9_X7 ⟨by decide +kernel, by decide +kernel, by decide +kernel⟩ rfl rfl (Or.inr ⟨_, kw_X9_38⟩) kI_X9_X7 kC_X9_X7 (fun q => ct_X7 l hG) ⟨(Nat.le_of_ble_eq_true rfl), (Nat.le_of_ble_eq_true rfl)⟩ 471 5628 (by omega) (by omega) (by omega) (by omega) (Nat.le_of_ble_eq_true rfl) 67 rfl dX9_init_60 dX9_init_63 dX9_init_64 (fun q w1 hw => ?_)
  obtain ⟨aT, rfl, rfl⟩ := hw
  refine k_putF 0 rfl rfl in_X9 5 (Nat.le_of_ble_eq_true rfl) kf_X9_39 rfl rfl tyX9 tyX9_ok nmX9 rfl rfl (Nat.le_of_ble_eq_true rfl) ([(h0, .inr (7, [.ref (a1 0), .ref (a2 0), .ref (a3 0), .ref (aH 336), .ref (aP 0), .ref (aT 0), .null, .null, .int 0, .int 0, .int 0]))] ++ wl 42 (gS cy a1) ++ wl 42 (gS cy a2) ++ wl 42 (gS cy a3) ++ wl 338 (gH cy aH) ++ wl 5 (gP cy aP) ++ wl 2 (gT cy aT) : va_W) rfl 70 rfl dX9_init_67 ?_
  refine k_aload 0 rfl rfl 71 rfl dX9_init_70 ?_
  refine k_newO (ci := 4) (fs := [.int 0, .int 0, .int 0, .int 0, .null, .null, .null, .null]) (N := 8) (nL' := 1) (F' := 1) (Lc' := 12) (C' := 4) (S' := 130) (B1 := BC cy) rfl in_X5 tyX5 tyX5_ok kd_X5 kc_X9_43 kn_X9_X5 ki_X9_X5 ⟨by decide +kernel, by decide +kernel, by decide +kernel⟩ rfl rfl (Or.inr ⟨_, kw_X9_45⟩) kI_X9_X5 kC_X9_X5 (fun q => ct_X5 l hG) ⟨(Nat.le_of_ble_eq_true rfl), (Nat.le_of_ble_eq_true rfl)⟩ 476 5766 (by omega) (by omega) (by omega) (by omega) (Nat.le_of_ble_eq_true rfl) 78 rfl dX9_init_71 dX9_init_74 dX9_init_75 (fun q w1 hw => ?_)
  obtain ⟨aC, rfl, rfl⟩ := hw
  refine k_putF 0 rfl rfl in_X9 6 (Nat.le_of_ble_eq_true rfl) kf_X9_46 rfl rfl tyX9 tyX9_ok nmX9 rfl rfl (Nat.le_of_ble_eq_true rfl) ([(h0, .inr (7, [.ref (a1 0), .ref (a2 0), .ref (a3 0), .ref (aH 336), .ref (aP 0), .ref (aT 0), .ref (aC 0), .null, .int 0, .int 0, .int 0]))] ++ wl 42 (gS cy a1) ++ wl 42 (gS cy a2) ++ wl 42 (gS cy a3) ++ wl 338 (gH cy aH) ++ wl 5 (gP cy aP) ++ wl 2 (gT cy aT) ++ wl 5 (gC cy aC) : va_W) rfl 81 rfl dX9_init_78 ?_
  refine k_aload 0 rfl rfl 82 rfl dX9_init_81 ?_
  refine k_newO (ci := 3) (fs := [.int 0, .null]) (N := 2) (nL' := 1) (F' := 1) (Lc' := 12) (C' := 1) (S' := 96) (B1 := BR cy) rfl in_X4 tyX4 tyX4_ok kd_X4 kc_X9_50 kn_X9_X4 ki_X9_X4 ⟨by decide +kernel, by decide +kernel, by decide +kernel⟩ rfl rfl (Or.inr ⟨_, kw_X9_52⟩) kI_X9_X4 kC_X9_X4 (fun q => ct_X4 l hG) ⟨(Nat.le_of_ble_eq_true rfl), (Nat.le_of_ble_eq_true rfl)⟩ 478 5864 (by omega) (by omega) (by omega) (by omega) (Nat.le_of_ble_eq_true rfl) 89 rfl dX9_init_82 dX9_init_85 dX9_init_86 (fun q w1 hw => ?_)
  obtain ⟨aR, rfl, rfl⟩ := hw
  refine k_putF 0 rfl rfl in_X9 7 (Nat.le_of_ble_eq_true rfl) kf_X9_53 rfl rfl tyX9 tyX9_ok nmX9 rfl rfl (Nat.le_of_ble_eq_true rfl) ([(h0, .inr (7, [.ref (a1 0), .ref (a2 0), .ref (a3 0), .ref (aH 336), .ref (aP 0), .ref (aT 0), .ref (aC 0), .ref (aR 0), .int 0, .int 0, .int 0]))] ++ wl 42 (gS cy a1) ++ wl 42 (gS cy a2) ++ wl 42 (gS cy a3) ++ wl 338 (gH cy aH) ++ wl 5 (gP cy aP) ++ wl 2 (gT cy aT) ++ wl 5 (gC cy aC) ++ wl 2 (gR cy aR) : va_W) rfl 92 rfl dX9_init_89 ?_
  refine k_aload 0 rfl rfl 93 rfl dX9_init_92 ?_
  refine k_iconst (0) 94 rfl dX9_init_93 (by decide) ?_
  refine k_put 0 rfl rfl in_X9 9 (Nat.le_of_ble_eq_true rfl) kf_X9_57 rfl tyX9 tyX9_ok nmX9 rfl rfl (Nat.le_of_ble_eq_true rfl) ([(h0, .inr (7, [.ref (a1 0), .ref (a2 0), .ref (a3 0), .ref (aH 336), .ref (aP 0), .ref (aT 0), .ref (aC 0), .ref (aR 0), .int 0, .int (0), .int 0]))] ++ wl 42 (gS cy a1) ++ wl 42 (gS cy a2) ++ wl 42 (gS cy a3) ++ wl 338 (gH cy aH) ++ wl 5 (gP cy aP) ++ wl 2 (gT cy aT) ++ wl 5 (gC cy aC) ++ wl 2 (gR cy aR) : va_W) rfl 97 rfl dX9_init_94 ?_
  refine k_aload 0 rfl rfl 98 rfl dX9_init_97 ?_
  refine k_iconst (-1) 99 rfl dX9_init_98 (by decide) ?_
  refine k_put 0 rfl rfl in_X9 10 (Nat.le_of_ble_eq_true rfl) kf_X9_61 rfl tyX9 tyX9_ok nmX9 rfl rfl (Nat.le_of_ble_eq_true rfl) ([(h0, .inr (7, [.ref (a1 0), .ref (a2 0), .ref (a3 0), .ref (aH 336), .ref (aP 0), .ref (aT 0), .ref (aC 0), .ref (aR 0), .int 0, .int (0), .int (-1)]))] ++ wl 42 (gS cy a1) ++ wl 42 (gS cy a2) ++ wl 42 (gS cy a3) ++ wl 338 (gH cy aH) ++ wl 5 (gP cy aP) ++ wl 2 (gT cy aT) ++ wl 5 (gC cy aC) ++ wl 2 (gR cy aR) : va_W) rfl 102 rfl dX9_init_99 ?_
  exact k_ret WX_end (Nat.le_of_ble_eq_true rfl) (Nat.le_of_ble_eq_true rfl) dX9_init_102
