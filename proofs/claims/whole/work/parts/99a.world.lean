/-! the law's two worlds: what stays of the start; the road's cells as a world -/
theorem nw_tab {w : Cond} (h : w ∈ NW) : w.onTables = true := by
  have h1 : isNest w = true := (List.mem_filter.mp h).2
  cases w <;> first | rfl | cases h1
theorem nw_warm {w : Cond} (h : w ∈ NW) {u U : State} (hW : u.WarmedH U.vm) (hz : va_Nw w u) : va_Nw w U := by
  have h1 : isNest w = true := (List.mem_filter.mp h).2
  cases w <;> first | exact va_Nw.warmM hW hz | exact va_Nw.warmF hW hz | exact va_Nw.warmC hW hz | exact va_Nw.warmD hW hz | cases h1
def GX (s0 : State) (U : State) : Prop := s0.WarmedH U.vm ∧ s0.heap.size ≤ U.heap.size ∧ (∀ q : Nat, q < s0.heap.size → U.heap[q]? = s0.heap[q]?) ∧ ∀ w ∈ NW, va_Nw w U
theorem GX.next {s0 u U : State} (hu : GX s0 u) (hW : u.WarmedH U.vm) (hz : u.heap.size ≤ U.heap.size) (hk : ∀ q : Nat, q < s0.heap.size → U.heap[q]? = u.heap[q]?) : GX s0 U :=
  ⟨State.WarmedH.trans hu.1 hW, Nat.le_trans hu.2.1 hz, fun q hq => (hk q hq).trans (hu.2.2.1 q hq), fun w hw => nw_warm hw hW (hu.2.2.2 w hw)⟩
theorem GX.call {s0 U : State} (g : JFrame) (mk : MethodId) (a : Array Value) (hu : GX s0 U) : GX s0 (U.calling g mk a) :=
  ⟨hu.1, hu.2.1, hu.2.2.1, fun w hw => (va_tabs (A := #[]) (A' := #[]) (u := U) (U := U.calling g mk a) (nw_tab hw) rfl (show w.before #[] U = true from hu.2.2.2 w hw) : w.before #[] (U.calling g mk a) = true)⟩
theorem gx_ok {s0 : State} (hAO : va_AO "SignalRoad$Junction" s0 ∧ va_AO "SignalRoad$State" s0 ∧ va_AO "SignalRoad$Word" s0) : GxOk (GX s0) s0.heap.size :=
  ⟨fun _ _ hu hW hz hk => hu.next hW hz hk, fun _ g mk a hu => hu.call g mk a, fun _ hu => hu.2.2.2, fun _ hu => ⟨va_AO.moved hu.1.alike hAO.1, va_AO.moved hu.1.alike hAO.2.1, va_AO.moved hu.1.alike hAO.2.2⟩, fun _ hu => hu.2.1⟩
/-- a world of new cells -/
theorem ok_new {Ω : Wd} {s0 : State} (hX : wX Ω = GX s0) (hi : ∀ i j, i < wN Ω → j < wN Ω → wA Ω i = wA Ω j → i = j) (hs : ∀ i, i < wN Ω → s0.heap.size ≤ wA Ω i) : OkW Ω := by
  refine ⟨hi, ?_, ?_, ?_⟩
  · rw [hX]
    exact fun u U hu hW hz hk => hu.next hW hz (fun q hq => hk q (Nat.lt_of_lt_of_le hq hu.2.1) (fun i hi e => by have := hs i hi; omega))
  · rw [hX]
    exact fun U g mk a hu => hu.call g mk a
  · rw [hX]
    exact fun U hu => hu.2.2.2
/-- the road's cells, references to the end -/
def isSa (o : Nat) : Bool := decide (1 ≤ o) && decide (o < 463) && decide ((o - 1) % 42 = 1)
def fmW (cy : Nat → ClassId) (E : Nat → Nat) (al : Nat → Nat) (o : Nat) : (Nat → Int32) → va_E :=
  if o = 475 then ec (cy 4) E else if o = 464 then rc (cy 3) 8 (fun k => some (al (127 + 42 * k))) else if isSa o = true then rc (cy 2) 4 (fun k => some (al (o + 1 + 10 * k))) else fmX cy al o
def WX (D : va_G) (cy : Nat → ClassId) (E : Nat → Nat) (al : Nat → Nat) (s0 : State) : Wd := (D, tyX cy, fmW cy E al, al, 479, GX s0)
theorem rfs_agree {cA : ClassId} {n : Nat} {f g : Nat → Option Nat} (h : ∀ i, i < n → f i = g i) : vp_cell cA (n, .inr (.inr (.inr (.inr f)))) = vp_cell cA (n, .inr (.inr (.inr (.inr g)))) := by
  rw [vp_cell_q, vp_cell_q]
  unfold arrV
  congr 1
  congr 1
  funext j
  show va_rf (f j.val) = va_rf (g j.val)
  rw [h _ j.isLt]
theorem fmX_S {cy : Nat → ClassId} {al : Nat → Nat} {a k : Nat} (ha : a < 11) (hk : k < 42) : fmX cy al (1 + 42 * a + k) = fmS cy al (1 + 42 * a) k := by
  unfold fmX
  rw [if_neg (by omega), if_pos (by omega), show (1 + 42 * a + k - 1) / 42 = a by omega, show (1 + 42 * a + k - 1) % 42 = k by omega]
theorem va_arr {D : va_G} {H : Heap} {a : Nat} {cA : ClassId} {n : Nat} {f g : Nat → Option Nat} (h : ∀ i, i < n → f i = g i) (hh : va_at D CL (a, rfs cA n f) H) : va_at D CL (a, rfs cA n g) H := by
  have h1 : H[a]? = some (vp_cell cA (n, .inr (.inr (.inr (.inr f))))) := hh
  show H[a]? = some (vp_cell cA (n, .inr (.inr (.inr (.inr g)))))
  rw [h1, rfs_agree h]
theorem fmW_at {D : va_G} {cy : Nat → ClassId} {E al : Nat → Nat} {H : Heap} {o : Nat} (ho : o < 479) (h : va_at D CL (al o, fmX cy al o (MX0 o)) H) : va_at D CL (al o, fmW cy E al o (MX0 o)) H := by
  unfold fmW
  by_cases h1 : o = 475
  · subst h1
    rw [if_pos rfl]
    exact va_arr (f := fun _ => none) (g := fun j => if MX0 475 j < 0 then none else some (E (MX0 475 j).toNatClampNeg)) (fun i _ => by
      show none = if (-1 : Int32) < 0 then none else _
      rw [if_pos (by decide)]) h
  · rw [if_neg h1]
    by_cases h2 : o = 464
    · subst h2
      rw [if_pos rfl]
      exact va_arr (f := fun k => if k < 8 then some (al (127 + 42 * k)) else none) (g := fun k => some (al (127 + 42 * k))) (fun i hi => if_pos hi) h
    · rw [if_neg h2]
      by_cases h3 : isSa o = true
      · rw [if_pos h3]
        simp only [isSa, Bool.and_eq_true, decide_eq_true_eq] at h3
        obtain ⟨⟨g1, g2⟩, g3⟩ := h3
        have e : o = 1 + 42 * ((o - 1) / 42) + 1 := by omega
        have hb : (o - 1) / 42 < 11 := by omega
        have h5 : fmX cy al o = fmS cy al (1 + 42 * ((o - 1) / 42)) 1 := by
          have := fmX_S (cy := cy) (al := al) hb (show 1 < 42 by decide)
          rw [← e] at this
          exact this
        rw [h5] at h
        exact va_arr (f := fun k => if k < 4 then some (al (1 + 42 * ((o - 1) / 42) + 2 + 10 * k)) else none) (g := fun k => some (al (o + 1 + 10 * k))) (fun i hi => by
          show (if i < 4 then some (al (1 + 42 * ((o - 1) / 42) + 2 + 10 * i)) else none) = _
          rw [if_pos hi, show 1 + 42 * ((o - 1) / 42) + 2 + 10 * i = o + 1 + 10 * i by omega]) h
      · rw [if_neg h3]
        exact h
/-- the constructor's block is a world -/
theorem WX_P {D : va_G} {cy : Nat → ClassId} {E al : Nat → Nat} {s0 : State} {H : Heap} (h : va_P D CL (wl 479 (gX cy al)) H) : va_P D CL (wd (WX D cy E al s0) MX0) H := fun k q hk => by
  obtain ⟨h1, rfl⟩ := wd_in hk
  have h2 : k < 479 := h1
  exact fmW_at h2 (h k (gX cy al k) (wl_get h2))
theorem WX_O {D : va_G} {cy : Nat → ClassId} {E al : Nat → Nat} {s0 : State} {A : Nat → Prop} (h : va_D A (wl 479 (gX cy al))) (hA : ∀ q, A q → s0.heap.size ≤ q) : OkW (WX D cy E al s0) := by
  refine ok_new (s0 := s0) rfl (fun i j hi hj e => h.1 i j _ _ (wl_get hi) (wl_get hj) e) (fun i hi => hA _ (h.2 i _ (wl_get hi)))
theorem fmW_J {cy : Nat → ClassId} {E al : Nat → Nat} {j w : Nat} (hj : isJ j) (hw : w < 10) : fmW cy E al (j + w) = fmJ cy al j w := by
  obtain ⟨a, k, ha, hk, rfl⟩ := hj
  have e : 3 + 42 * a + 10 * k + w = 1 + 42 * a + (10 * k + w + 2) := by omega
  have hm : (3 + 42 * a + 10 * k + w - 1) % 42 = 10 * k + w + 2 := by omega
  have h3 : ¬ isSa (3 + 42 * a + 10 * k + w) = true := by
    simp only [isSa, Bool.and_eq_true, decide_eq_true_eq, hm]
    omega
  unfold fmW
  rw [if_neg (by omega), if_neg (by omega), if_neg h3, e, fmX_S ha (by omega)]
  show fmJ cy al (1 + 42 * a + 2 + 10 * ((10 * k + w) / 10)) ((10 * k + w) % 10) = _
  rw [show (10 * k + w) / 10 = k by omega, show (10 * k + w) % 10 = w by omega, show 1 + 42 * a + 2 + 10 * k = 3 + 42 * a + 10 * k by omega]
theorem WX_LX (D : va_G) (cy : Nat → ClassId) (E al : Nat → Nat) (s0 : State) : LX (WX D cy E al s0) := by
  have IAo : ∀ {o N : Nat}, o < 479 → fmW cy E al o = ac (cy 0) N → IA (WX D cy E al s0) o N := fun ho h => ⟨ho, cy 0, 0, h, rfl⟩
  have CAo : ∀ {o N : Nat}, o < 479 → fmW cy E al o = ac (cy 1) N → CA (WX D cy E al s0) o N := fun ho h => ⟨ho, cy 1, 1, h, rfl⟩
  refine ⟨fun j hj => ?_, fun t ht => ?_, ⟨⟨show 463 < 479 by decide, rfl⟩, ⟨show 464 < 479 by decide, cy 3, 3, rfl, rfl⟩⟩, ⟨⟨show 465 < 479 by decide, rfl⟩, IAo (by decide) rfl, IAo (by decide) rfl, IAo (by decide) rfl, IAo (by decide) rfl⟩, ⟨⟨show 470 < 479 by decide, rfl⟩, IAo (by decide) rfl⟩, ⟨⟨show 472 < 479 by decide, rfl⟩, CAo (by decide) rfl, IAo (by decide) rfl, IAo (by decide) rfl⟩, ⟨⟨show 477 < 479 by decide, rfl⟩, CAo (by decide) rfl⟩, ⟨show 0 < 479 by decide, rfl⟩⟩
  · have hlt : j + 9 < 479 := by
      obtain ⟨a, k, ha, hk, rfl⟩ := hj
      omega
    exact ⟨⟨by show j < 479; omega, fmW_J hj (w := 0) (by decide)⟩, IAo (by omega) (fmW_J hj (w := 1) (by decide)), IAo (by omega) (fmW_J hj (w := 2) (by decide)), IAo (by omega) (fmW_J hj (w := 3) (by decide)), IAo (by omega) (fmW_J hj (w := 4) (by decide)), IAo (by omega) (fmW_J hj (w := 5) (by decide)), IAo (by omega) (fmW_J hj (w := 6) (by decide)), IAo (by omega) (fmW_J hj (w := 7) (by decide)), IAo (by omega) (fmW_J hj (w := 8) (by decide)), IAo (by omega) (fmW_J hj (w := 9) (by decide))⟩
  · obtain ⟨a, ha, rfl⟩ := ht
    refine ⟨⟨by show 1 + 42 * a < 479; omega, ?_⟩, ⟨by show 1 + 42 * a + 1 < 479; omega, cy 2, 2, ?_, rfl⟩⟩
    · show fmW cy E al (1 + 42 * a) = _
      have h3 : ¬ isSa (1 + 42 * a) = true := by
        simp only [isSa, Bool.and_eq_true, decide_eq_true_eq]
        omega
      unfold fmW
      rw [if_neg (by omega), if_neg (by omega), if_neg h3]
      exact fmX_S (k := 0) ha (by decide)
    · show fmW cy E al (1 + 42 * a + 1) = _
      have h3 : isSa (1 + 42 * a + 1) = true := by
        simp only [isSa, Bool.and_eq_true, decide_eq_true_eq]
        omega
      unfold fmW
      rw [if_neg (by omega), if_neg (by omega), if_pos h3]
      rfl
theorem WX_WA (D : va_G) (cy : Nat → ClassId) (E al : Nat → Nat) (s0 : State) : WA (WX D cy E al s0) E := ⟨show 475 < 479 by decide, cy 4, 4, rfl, rfl⟩
/-- the reference's world -/
def WM (D : va_G) (cy : Nat → ClassId) (al : Nat → Nat) (s0 : State) : Wd := (D, tyX cy, fmM cy al, al, 12, GX s0)
theorem WM_P {D : va_G} {cy : Nat → ClassId} {al : Nat → Nat} {s0 : State} {H : Heap} (h : va_P D CL (wl 12 (gM cy al)) H) : va_P D CL (wd (WM D cy al s0) MM0) H := h
theorem WM_O {D : va_G} {cy : Nat → ClassId} {al : Nat → Nat} {s0 : State} {A : Nat → Prop} (h : va_D A (wl 12 (gM cy al))) (hA : ∀ q, A q → s0.heap.size ≤ q) : OkW (WM D cy al s0) := by
  refine ok_new (s0 := s0) rfl (fun i j hi hj e => h.1 i j _ _ (wl_get hi) (wl_get hj) e) (fun i hi => hA _ (h.2 i _ (wl_get hi)))
theorem WM_LM (D : va_G) (cy : Nat → ClassId) (al : Nat → Nat) (s0 : State) : LM (WM D cy al s0) := by
  have IAo : ∀ {o N : Nat}, o < 12 → fmM cy al o = ac (cy 0) N → IA (WM D cy al s0) o N := fun ho h => ⟨ho, cy 0, 0, h, rfl⟩
  exact ⟨⟨show 0 < 12 by decide, rfl⟩, IAo (by decide) rfl, IAo (by decide) rfl, IAo (by decide) rfl, IAo (by decide) rfl, IAo (by decide) rfl, IAo (by decide) rfl, IAo (by decide) rfl, IAo (by decide) rfl, IAo (by decide) rfl, IAo (by decide) rfl, IAo (by decide) rfl⟩
/-- what a new road and a new reference are -/
theorem inv0 : Inv MX0 MM0 := by
  refine ⟨?_, ?_, ⟨0, 0, by decide, by decide, by decide +kernel, by decide +kernel, by decide +kernel, fun i h => absurd h (Nat.not_lt_zero i)⟩, ⟨by decide +kernel, Or.inl (by decide +kernel)⟩, ⟨0, by decide, by decide +kernel, by decide +kernel, fun i h => absurd h (Nat.not_lt_zero i)⟩, ⟨0, by decide, by decide +kernel, by decide +kernel, fun i h => absurd h (Nat.not_lt_zero i)⟩, by decide +kernel, by decide +kernel, ?_, ?_⟩
  · refine ⟨by decide +kernel, by decide +kernel, by decide +kernel, by decide +kernel, fun j hj => ?_, by decide +kernel, by decide +kernel, ?_⟩
    · rcases (show j = 0 ∨ j = 1 ∨ j = 2 ∨ j = 3 by omega) with rfl | rfl | rfl | rfl <;> exact ⟨by decide +kernel, by decide +kernel, by decide +kernel, by decide +kernel, by decide +kernel, by decide +kernel, by decide +kernel, by decide +kernel, by decide +kernel, by decide +kernel, by decide +kernel, by decide +kernel, by decide +kernel⟩
    · intro j hj _
      rcases (show j = 0 ∨ j = 1 ∨ j = 2 ∨ j = 3 by omega) with rfl | rfl | rfl | rfl <;> exact ⟨by decide +kernel, by decide +kernel⟩
  · have hn : ∀ j, j < 4 → ¬ nI j < MM0 1 2 := by decide +kernel
    have hn1 : ∀ j, j < 3 → ¬ nI (j + 1) < MM0 1 2 := by decide +kernel
    refine ⟨?_, fun j hj h => absurd h (hn j hj), fun j hj _ k hk => ?_, fun j hj h => absurd h (hn1 j hj)⟩
    · unfold V0 bt
      decide +kernel
    · revert k
      rcases (show j = 0 ∨ j = 1 ∨ j = 2 ∨ j = 3 by omega) with rfl | rfl | rfl | rfl <;> decide +kernel
  · unfold bt
    decide +kernel
  · unfold bt
    decide +kernel
