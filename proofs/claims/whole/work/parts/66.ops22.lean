/-! calls: character, append -/
theorem ch_ok : ∀ k : Fin 127, isc (nI k.1) = true ∧ ((nI k.1).toUInt32 % 65536).toInt32 = nI k.1 ∧ vp_nar .char (nI k.1) = nI k.1 := by decide +kernel
theorem ch_of {x : Int32} (h : bt x 0 126) : isc x = true ∧ (x.toUInt32 % 65536).toInt32 = x ∧ vp_nar .char x = x := by
  obtain ⟨k, rfl, h1, h2⟩ := bt_nI h
  exact ch_ok ⟨k, by omega⟩
section O22
variable {Mx Mm : Mem}
theorem st_character (I : Inv Mx Mm) (p : Int32) : ∃ rx vm Mm', fX9_character Mx p = some rx ∧ fX10_character Mm p = some (vm, Mm') ∧ Agr [0] rx vm Mm' ∧ Inv Mx Mm' := by
  obtain ⟨l, hl, q1, q2, q3⟩ := I.2.2.2.2.2.1
  unfold fX9_character fX10_character
  simp only [bnd_e, jn_e]
  have bl : bt (nI l) 0 2000000 := by unfold bt; rw [nI_toInt (by omega)]; omega
  rw [q1, q2, f_isWithin, clp_e, f_in, clp_e, b01_ite]
  by_cases hp : (decide (0 ≤ p) && decide (p ≤ nI l - 1)) = true
  · obtain ⟨k, rfl, h1, h2⟩ := arg_in bl hp
    rw [nI_toInt (by omega)] at h1
    have hk : k < l := by omega
    obtain ⟨e1, e2, e3⟩ := q3 k hk
    obtain ⟨c1, c2, c3⟩ := ch_of (x := Mm 6 k) ⟨by omega, e3⟩
    have z : mset Mm 0 0 0 0 0 = 0 := by rw [ms_at, if_pos ⟨rfl, rfl⟩]
    rw [hp, b01_T, need_T', clpx_r, if_pos rfl, grd_T (inb_nI (by omega) (by omega)), nI_clamp (by omega), e1, grd_T c1, z, if_pos (by decide), grd_T (inb_nI (by omega) (by omega)), ms_other _ _ _ (by omega), c2, grd_T c1]
    exact ⟨_, _, _, rfl, rfl, ⟨z, rfl⟩, I.th 0⟩
  · have z1 : mset Mm 0 0 1 0 0 = 1 := by rw [ms_at, if_pos ⟨rfl, rfl⟩]
    rw [Bool.not_eq_true _ |>.mp hp, b01_F, need_1', clpx_l, if_neg (show ¬ false = true by decide), z1, if_neg (show ¬ (1 : Int32) ≤ 0 by decide), grd_T (show isc 0 = true by decide)]
    exact ⟨_, _, _, rfl, rfl, ⟨0, rfl, z1⟩, I.th 1⟩
/-- byte i of p, the first is the highest -/
def byt (p : Int32) (i : Nat) : Int32 := ((p.toUInt32 >>> ((24 - 8 * nI i).toUInt32 &&& Int32.toUInt32 31)).toInt32) &&& 255
def byz (p : Int32) (i : Nat) : Bool := decide (byt p i = 0)
def byo (p : Int32) (i : Nat) : Bool := byz p i || (decide (33 ≤ byt p i) && decide (byt p i ≤ 126))
theorem sh_n : ∀ i : Fin 4, ¬ (24 - 8 * nI i.1 < 0) ∧ (24 - 8 * nI i.1) + (-8) = 24 - 8 * nI (i.1 + 1) := by decide +kernel
theorem x_need_b (M : Mem) (b : Bool) (f : Int32) : fX9_need M (b01 b) f = if b then some (.inr ()) else fX9_need M 0 f := by
  cases b
  · rfl
  · rfl
theorem x_app_cnt (M : Mem) (p : Int32) (k2 : Int32 → Option ((Nat ⊕ Int32) × Mem)) :
    (al (byo p) 4 = true ∧ lp (fX9_append_L2 p M k2) FU (0, 24) = k2 (nI (cn (fun i => !byz p i) 4))) ∨ ∃ i, i < 4 ∧ byo p i = false ∧ (∀ k, k < i → byo p k = true) ∧ lp (fX9_append_L2 p M k2) FU (0, 24) = some (.inl 1, M) := by
  refine lp_srch (fun i => (nI (cn (fun i => !byz p i) i), 24 - 8 * nI i)) (byo p) 4 (by omega) (show ((0 : Int32), (24 : Int32)) = (nI 0, 24 - 8 * nI 0) from by decide) (fun i hi ho k => ?_) (fun i hi ho k => ?_) (fun k => ?_)
  · obtain ⟨s1, s2⟩ := sh_n ⟨i, hi⟩
    obtain ⟨b, hb⟩ : ∃ b, b = byt p i := ⟨_, rfl⟩
    unfold byo byz at ho
    simp only [fX9_append_L2, bnd_e, jn_e]
    rw [if_neg s1, s2]
    simp only [cn]
    unfold byt at hb
    rw [← hb]
    show _ = k (nI (_ + if (!decide (byt p i = 0)) = true then 1 else 0), _)
    unfold byt at ho ⊢
    rw [← hb] at ho ⊢
    by_cases z : b = 0
    · rw [if_pos z, if_pos z, need_T', clpm_r, decide_eq_true z]
      exact congrArg (fun x => k (x, 24 - 8 * nI (i + 1))) (Int32.add_zero _)
    · rw [decide_eq_false z, Bool.false_or] at ho
      rw [if_neg z, if_neg z, f_isWithin, clp_e, b01_ite, if_pos ho, need_T', clpm_r, decide_eq_false z]
      exact congrArg (fun x => k (x, 24 - 8 * nI (i + 1))) (nI_1 _)
  · obtain ⟨s1, s2⟩ := sh_n ⟨i, hi⟩
    obtain ⟨b, hb⟩ : ∃ b, b = byt p i := ⟨_, rfl⟩
    unfold byo byz at ho
    simp only [fX9_append_L2, bnd_e, jn_e]
    rw [if_neg s1]
    unfold byt at hb ho
    rw [← hb] at ho ⊢
    rw [Bool.or_eq_false_iff, decide_eq_false_iff_not] at ho
    rw [if_neg ho.1, if_neg ho.1, f_isWithin, clp_e, b01_ite, ho.2, if_neg (show ¬ false = true by decide), need_2', clpm_l]
  · simp only [fX9_append_L2]
    rw [if_pos (by decide)]
theorem m_app_cnt (M : Mem) (p : Int32) (k3 : Int32 → Option (Int32 × Mem)) (k15 : Unit → Option (Int32 × Mem)) :
    (al (byo p) 4 = true ∧ lp (fX10_append_L2 p M k3 k15) FU (0, 24) = k3 (nI (cn (fun i => !byz p i) 4))) ∨ ∃ i, i < 4 ∧ byo p i = false ∧ (∀ k, k < i → byo p k = true) ∧ lp (fX10_append_L2 p M k3 k15) FU (0, 24) = k15 () := by
  refine lp_srch (fun i => (nI (cn (fun i => !byz p i) i), 24 - 8 * nI i)) (byo p) 4 (by omega) (show ((0 : Int32), (24 : Int32)) = (nI 0, 24 - 8 * nI 0) from by decide) (fun i hi ho k => ?_) (fun i hi ho k => ?_) (fun k => ?_)
  · obtain ⟨s1, s2⟩ := sh_n ⟨i, hi⟩
    obtain ⟨b, hb⟩ : ∃ b, b = byt p i := ⟨_, rfl⟩
    unfold byo byz at ho
    simp only [fX10_append_L2, bnd_e, jn_e]
    rw [if_neg s1, s2]
    simp only [cn]
    unfold byt at hb
    rw [← hb]
    show _ = k (nI (_ + if (!decide (byt p i = 0)) = true then 1 else 0), _)
    unfold byt at ho ⊢
    rw [← hb] at ho ⊢
    by_cases z : b = 0
    · rw [if_pos z, decide_eq_true z]; rfl
    · rw [decide_eq_false z, Bool.false_or] at ho
      rw [if_neg z, f_in, clp_e, b01_ite, if_pos ho, decide_eq_false z]
      exact congrArg (fun x => k (x, 24 - 8 * nI (i + 1))) (nI_1 _)
  · obtain ⟨s1, s2⟩ := sh_n ⟨i, hi⟩
    obtain ⟨b, hb⟩ : ∃ b, b = byt p i := ⟨_, rfl⟩
    unfold byo byz at ho
    simp only [fX10_append_L2, bnd_e, jn_e]
    rw [if_neg s1]
    unfold byt at hb ho
    rw [← hb] at ho ⊢
    rw [Bool.or_eq_false_iff, decide_eq_false_iff_not] at ho
    rw [if_neg ho.1, f_in, clp_e, b01_ite, ho.2, if_neg (show ¬ false = true by decide)]
  · simp only [fX10_append_L2]
    rw [if_pos (by decide)]
/-- what is written -/
def axp (M : Mem) (l : Nat) (p : Int32) : Nat → Mem
  | 0 => M
  | i + 1 => if byz p i then axp M l p i else mset (mset (axp M l p i) 473 (l + cn (fun i => !byz p i) i) (byt p i)) 472 0 (nI (l + cn (fun i => !byz p i) (i + 1)))
def amp (M : Mem) (l : Nat) (p : Int32) : Nat → Mem
  | 0 => M
  | i + 1 => if byz p i then amp M l p i else mset (mset (amp M l p i) 0 8 (nI (l + cn (fun i => !byz p i) (i + 1)))) 5 (l + cn (fun i => !byz p i) i) (byt p i)
theorem cn_mono (q : Nat → Bool) : ∀ {a b : Nat}, a ≤ b → cn q a ≤ cn q b := by
  intro a b h
  induction h with
  | refl => exact Nat.le_refl _
  | step _ ih => exact Nat.le_trans ih (Nat.le_add_right _ _)
theorem cn_z {p : Int32} {i : Nat} (h : byz p i = true) : cn (fun i => !byz p i) (i + 1) = cn (fun i => !byz p i) i := by
  simp only [cn, h]; rfl
theorem cn_n {p : Int32} {i : Nat} (h : ¬ byz p i = true) : cn (fun i => !byz p i) (i + 1) = cn (fun i => !byz p i) i + 1 := by
  simp only [cn, Bool.not_eq_true _ |>.mp h]; rfl
theorem ax_z {M : Mem} {l : Nat} {p : Int32} {i : Nat} (z : byz p i = true) : axp M l p (i + 1) = axp M l p i := by
  conv => lhs; unfold axp
  rw [if_pos z]
theorem ax_0 (M : Mem) (l : Nat) (p : Int32) (h : M 472 0 = nI l) : ∀ i, axp M l p i 472 0 = nI (l + cn (fun i => !byz p i) i)
  | 0 => h
  | i + 1 => by
    unfold axp
    by_cases z : byz p i = true
    · rw [if_pos z, ax_0 M l p h i, cn_z z]
    · rw [if_neg z, ms_at, if_pos ⟨rfl, rfl⟩]
theorem am_0 (M : Mem) (l : Nat) (p : Int32) (h : M 0 8 = nI l) : ∀ i, amp M l p i 0 8 = nI (l + cn (fun i => !byz p i) i)
  | 0 => h
  | i + 1 => by
    unfold amp
    by_cases z : byz p i = true
    · rw [if_pos z, am_0 M l p h i, cn_z z]
    · rw [if_neg z, ms_other _ _ _ (by omega), ms_at, if_pos ⟨rfl, rfl⟩]
theorem ax_o (M : Mem) (l : Nat) (p : Int32) {o : Nat} (ho : o ≠ 472 ∧ o ≠ 473) : ∀ i, axp M l p i o = M o
  | 0 => rfl
  | i + 1 => by
    unfold axp
    split
    · exact ax_o M l p ho i
    · rw [ms_other _ _ _ ho.1, ms_other _ _ _ ho.2, ax_o M l p ho i]
theorem am_o (M : Mem) (l : Nat) (p : Int32) {o : Nat} (ho : o ≠ 0 ∧ o ≠ 5) : ∀ i, amp M l p i o = M o
  | 0 => rfl
  | i + 1 => by
    unfold amp
    split
    · exact am_o M l p ho i
    · rw [ms_other _ _ _ ho.2, ms_other _ _ _ ho.1, am_o M l p ho i]
theorem am_w (M : Mem) (l : Nat) (p : Int32) {w : Nat} (hw : w ≠ 8) : ∀ i, amp M l p i 0 w = M 0 w
  | 0 => rfl
  | i + 1 => by
    unfold amp
    split
    · exact am_w M l p hw i
    · rw [ms_other _ _ _ (by omega), ms_at, if_neg (by omega), am_w M l p hw i]
theorem by_bt {p : Int32} {i : Nat} (h : byo p i = true) (z : ¬ byz p i = true) : bt (byt p i) 33 126 := by
  unfold byo at h
  rw [Bool.not_eq_true _ |>.mp z, Bool.false_or] at h
  exact dec_ct h
theorem by_sc {Mx Mm : Mem} {l : Nat} {p : Int32} (hb : al (byo p) 4 = true) (h : ∀ k, k < l → Mx 473 k = Mm 5 k ∧ bt (Mm 5 k) 33 126) : ∀ i, i ≤ 4 → ∀ k, k < l + cn (fun i => !byz p i) i → axp Mx l p i 473 k = amp Mm l p i 5 k ∧ bt (amp Mm l p i 5 k) 33 126
  | 0, _, k, hk => h k hk
  | i + 1, hi, k, hk => by
    unfold axp amp
    by_cases z : byz p i = true
    · rw [cn_z z] at hk
      rw [if_pos z, if_pos z]; exact by_sc hb h i (by omega) k hk
    · rw [cn_n z] at hk
      rw [if_neg z, if_neg z, ms_other _ _ _ (by omega), ms_at, ms_at]
      by_cases e : k = l + cn (fun i => !byz p i) i
      · rw [if_pos ⟨rfl, e⟩, if_pos ⟨rfl, e⟩]; exact ⟨rfl, by_bt (al_T.mp hb i (by omega)) z⟩
      · rw [if_neg (fun q => e q.2), if_neg (fun q => e q.2), ms_other _ _ _ (by omega)]
        exact by_sc hb h i (by omega) k (by omega)
theorem x_add {M : Mem} {l : Nat} {b : Int32} (h : M 472 0 = nI l) (hl : l < 60) (hb : bt b 33 126) : fX5_add M b = some ((), mset (mset M 473 l b) 472 0 (nI (l + 1))) := by
  have z : ¬ b = 0 := fun z => by subst z; have := hb.1; have e : Int32.toInt 0 = 0 := rfl; omega
  unfold fX5_add
  rw [jn_e, if_neg z, h, if_neg (show ¬ (60 : Int32) ≤ nI l from nI_ge (b := 60) hl (by omega)), grd_T (inb_nI hl (by omega)), nI_clamp (by omega), bnd_e, bnd_e, ms_other _ _ _ (by omega), h, nI_1, (ch_of (x := b) ⟨by have := hb.1; omega, hb.2⟩).2.2]
theorem x_app_lp {M : Mem} {l : Nat} {p : Int32} (h : M 472 0 = nI l) (hb : al (byo p) 4 = true) (hl : l + cn (fun i => !byz p i) 4 ≤ 60) (k7 : Mem → Option ((Nat ⊕ Int32) × Mem)) : lp (fX9_append_L1 p k7) FU (24, M) = k7 (axp M l p 4) := by
  refine lp_at (fun i => (24 - 8 * nI i, axp M l p i)) 4 (by omega) (congrArg (fun x => (x, M)) (show (24 : Int32) = 24 - 8 * nI 0 from by decide)) (fun i hi k => ?_) (fun k => ?_)
  · obtain ⟨s1, s2⟩ := sh_n ⟨i, hi⟩
    have ho := al_T.mp hb i hi
    simp only [fX9_append_L1, bnd_e]
    rw [if_neg s1, s2]
    show cl (fX5_add (axp M l p i) ((byt p i).toUInt32 % 65536).toInt32) (fun _ M11 => k (24 - 8 * nI (i + 1), M11)) = k (24 - 8 * nI (i + 1), axp M l p (i + 1))
    by_cases z : byz p i = true
    · have z' : byt p i = 0 := decide_eq_true_iff.mp z
      rw [z', ax_z z]
      exact cl_e _ _ _
    · have b1 := by_bt ho z
      have b2 := cn_mono (fun i => !byz p i) (show i + 1 ≤ 4 by omega)
      rw [cn_n z] at b2
      rw [(ch_of (x := byt p i) ⟨by have := b1.1; omega, b1.2⟩).2.1, x_add (ax_0 M l p h i) (by omega) b1, cl_e]
      conv => rhs; unfold axp
      rw [if_neg z, cn_n z]; rfl
  · simp only [fX9_append_L1]
    rw [if_pos (by decide)]
theorem m_app_lp {M : Mem} {l : Nat} {p : Int32} (h : M 0 8 = nI l) (hb : al (byo p) 4 = true) (hl : l + cn (fun i => !byz p i) 4 ≤ 60) : lp (fX10_append_L1 p) FU (24, M) = some (amp M l p 4 0 8, amp M l p 4) := by
  refine lp_at (fun i => (24 - 8 * nI i, amp M l p i)) 4 (by omega) (congrArg (fun x => (x, M)) (show (24 : Int32) = 24 - 8 * nI 0 from by decide)) (fun i hi k => ?_) (fun k => ?_)
  · obtain ⟨s1, s2⟩ := sh_n ⟨i, hi⟩
    have ho := al_T.mp hb i hi
    simp only [fX10_append_L1, bnd_e, jn_e]
    rw [if_neg s1, s2]
    obtain ⟨b, hbb⟩ : ∃ b, b = byt p i := ⟨_, rfl⟩
    have hbc := hbb
    unfold byt at hbb
    rw [← hbb]
    by_cases z : byz p i = true
    · have z' : b = 0 := hbc.trans (decide_eq_true_iff.mp z)
      rw [if_pos (by rw [z']; decide)]
      conv => rhs; unfold amp
      rw [if_pos z]
    · have b1 := by_bt ho z
      have b2 := cn_mono (fun i => !byz p i) (show i + 1 ≤ 4 by omega)
      rw [cn_n z] at b2
      rw [if_neg (by rw [ti_le, hbc]; have := b1.1; have e : Int32.toInt 0 = 0 := rfl; omega), am_0 M l p h i, grd_T (inb_nI (by omega) (by omega)), nI_clamp (by omega), nI_1]
      conv => rhs; unfold amp
      rw [if_neg z, cn_n z, hbc]; rfl
  · simp only [fX10_append_L1]
    rw [if_pos (by decide)]
theorem st_append (I : Inv Mx Mm) (p : Int32) : ∃ rx Mx' vm Mm', fX9_append Mx p = some (rx, Mx') ∧ fX10_append Mm p = some (vm, Mm') ∧ Agr [1, 2] rx vm Mm' ∧ Inv Mx' Mm' := by
  have I0 := I.th 0
  obtain ⟨N, hN⟩ : ∃ z, z = mset Mm 0 0 0 := ⟨_, rfl⟩
  rw [← hN] at I0
  obtain ⟨hR, hV, hH, hSV, ⟨l, l1, l2, l3, l4⟩, hPG, hRE⟩ := id I0
  have h00 : N 0 0 = 0 := by rw [hN, ms_at, if_pos ⟨rfl, rfl⟩]
  unfold fX9_append fX10_append
  simp only [bnd_e, ← hN]
  rw [jn_e, jn_e, jn_e]
  rcases x_app_cnt Mx p _ with ⟨hb, hx⟩ | ⟨i, hi, hb, hk, hx⟩
  · rcases m_app_cnt N p _ _ with ⟨_, hm⟩ | ⟨i, hi, hf, _⟩
    · rw [hx]
      simp only [jn_e]
      rw [hm]
      have c4 := cn_le (fun i => !byz p i) 4
      rw [l2, l3, nI_add]
      by_cases h60 : l + cn (fun i => !byz p i) 4 ≤ 60
      · rw [if_neg (show ¬ (60 : Int32) < nI (l + cn (fun i => !byz p i) 4) from nI_nlt (a := 60) h60 (by omega)), if_pos (show nI (l + cn (fun i => !byz p i) 4) ≤ (60 : Int32) from nI_le (b := 60) h60 (by omega)), need_T', clpm_r, x_app_lp l2 hb h60, m_app_lp l3 hb h60]
        refine ⟨_, _, _, _, rfl, rfl, ⟨by rw [am_w _ _ _ (by omega), h00], by rw [ax_0 _ _ _ l2, am_0 _ _ _ l3]⟩, RS_frame (fun o _ _ => ax_o _ _ _ (by omega) 4) (by rw [am_o _ _ _ (by omega)]; exact hR), by rw [am_o _ _ _ (by omega)]; exact hV, HR_frame (fun o _ _ => ax_o _ _ _ (by omega) 4) (am_o _ _ _ (by omega) 4) (am_w _ _ _ (by omega) 4) hH, ?_, ⟨_, h60, ax_0 _ _ _ l2 4, am_0 _ _ _ l3 4, by_sc hb l4 4 (by omega)⟩, ?_, ?_⟩
        · obtain ⟨s1, s2⟩ := hSV
          refine ⟨by rw [ax_o _ _ _ (by omega), am_w _ _ _ (by omega)]; exact s1, ?_⟩
          rw [am_w _ _ _ (by omega), am_o _ _ _ (by omega)]
          rcases s2 with s2 | ⟨s2, s3, s4⟩
          · exact Or.inl s2
          · exact Or.inr ⟨s2, RS_frame (fun o _ _ => ax_o _ _ _ (by omega) 4) s3, s4⟩
        · obtain ⟨q, c1, c2, c3, c4⟩ := hPG
          exact ⟨q, c1, by rw [ax_o _ _ _ (by omega)]; exact c2, by rw [am_w _ _ _ (by omega)]; exact c3, fun k hk => by rw [ax_o _ _ _ (by omega), am_o _ _ _ (by omega)]; exact c4 k hk⟩
        · obtain ⟨d1, d2, d3, d4⟩ := hRE
          refine ⟨?_, ?_, ?_, ?_⟩
          · rw [ax_o _ _ _ (by omega), am_w _ _ _ (by omega)]; exact d1
          · rw [ax_o _ _ _ (by omega), am_w _ _ _ (by omega)]; exact d2
          · rw [am_w _ _ _ (by omega)]; exact d3
          · rw [am_w _ _ _ (by omega)]; exact d4
      · rw [if_pos (show (60 : Int32) < nI (l + cn (fun i => !byz p i) 4) from nI_lt (a := 60) (by omega) (by omega)), if_neg (show ¬ nI (l + cn (fun i => !byz p i) 4) ≤ (60 : Int32) from nI_ge (a := 60) (by omega) (by omega)), need_3', clpm_l, m_raises, cl_e]
        exact ⟨_, _, _, _, rfl, rfl, fin_x I0 1 rfl _ _ rfl⟩
    · exact absurd (al_T.mp hb i hi) (by rw [hf]; decide)
  · rcases m_app_cnt N p _ _ with ⟨hc, _⟩ | ⟨i', hi', hf, _, hm⟩
    · exact absurd (al_T.mp hc i hi) (by rw [hb]; decide)
    · rw [hx]
      simp only [jn_e]
      rw [hm]
      simp only [m_raises, cl_e]
      exact ⟨_, _, _, _, rfl, rfl, fin_x I0 0 rfl _ _ rfl⟩
end O22
