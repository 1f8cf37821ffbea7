/-! calls: speed, refusal, clearance, shows, greenOf, errorPosition, save, restore, undo -/
section O1
variable {Mx Mm : Mem}
theorem st_speed (I : Inv Mx Mm) (p : Int32) : ∃ rx Mx' vm Mm', fX9_speed Mx p = some (rx, Mx') ∧ fX10_speed Mm p = some (vm, Mm') ∧ Agr [1] rx vm Mm' ∧ Inv Mx' Mm' := by
  have I0 := I.th 0
  unfold fX9_speed fX10_speed
  simp only [f_isWithin, f_in, bnd_e, clp_e]
  by_cases hb : (decide (5 ≤ p) && decide (p ≤ 25)) = true
  · have hp := dec_ct hb
    rw [hb]
    obtain ⟨Mx1, N, a1, a2, a3, a4, a5, a6, a7, a8⟩ := changes_ok I0
    rw [need_T, clpm_r, a1, cl_e, b01_ite, if_pos rfl, a2, cl_e, grd_T ib1, grd_T ib1, tc1]
    refine ⟨_, _, _, _, rfl, rfl, ⟨?_, ?_⟩, Inv.of ?_ ?_ (XF.set (XF.rf Mx1) (by omega)) (MF.set1 (MF.rf N)) a5 a6⟩
    · rw [ms_other _ _ _ (by omega), a4 0 (by omega), ms_at, if_pos ⟨rfl, rfl⟩]
    · rw [a7.w1, a3 1 (by omega) (by omega) (by omega)]
    · have e1 : N 1 = (mset Mm 0 0 0) 1 := a3 1 (by omega) (by omega) (by omega)
      rw [ms_same, e1]
      obtain ⟨i1, i2, i3, i4, i5, i6, i7, i8⟩ := a7
      have hk : ∀ k, k ≠ 1 → upd (mset Mm 0 0 0 1) 1 p k = mset Mm 0 0 0 1 k := fun k hk => pk_un hk
      refine ⟨by rw [ms_at, if_neg (by omega), hk 0 (by omega)]; exact i1, by rw [ms_at, if_pos ⟨rfl, rfl⟩, up_at, if_pos rfl], by rw [ms_at, if_neg (by omega), hk 2 (by omega)]; exact i3, by rw [ms_at, if_neg (by omega), hk 3 (by omega)]; exact i4, fun j hj => ?_, ?_, ?_, fun j hj hl => ?_⟩
      · refine RJ_cong (hk 2 (by omega)) (fun k hk' => hk _ (by unfold ix; omega)) (RJ_copy (fun c k hc hk' => ?_) (i5 j hj))
        rw [ms_other _ _ _ (by omega)]
      · simp only [ms_at]
        rw [if_neg (by omega), if_neg (by omega), if_neg (by omega), if_neg (by omega), hk 4 (by omega)]; exact i6
      · simp only [ms_at]
        rw [if_neg (by omega), if_neg (by omega), if_neg (by omega), if_neg (by omega), hk 5 (by omega)]; exact i7
      · rw [hk 2 (by omega)] at hl
        rw [ms_at, if_neg (by omega), ms_at, if_neg (by omega)]; exact i8 j hj hl
    · have e1 : N 1 = (mset Mm 0 0 0) 1 := a3 1 (by omega) (by omega) (by omega)
      rw [ms_same, e1]
      have V := I0.2.1
      obtain ⟨v0, v1, v2, v3⟩ := V
      have hk : ∀ k, k ≠ 1 → upd (mset Mm 0 0 0 1) 1 p k = mset Mm 0 0 0 1 k := fun k hk => pk_un hk
      refine ⟨⟨by rw [hk 0 (by omega)]; exact v0.1, by rw [up_at, if_pos rfl]; exact hp, by rw [hk 2 (by omega)]; exact v0.2.2.1, by rw [hk 3 (by omega)]; exact v0.2.2.2.1, by rw [hk 3 (by omega), hk 4 (by omega)]; exact v0.2.2.2.2⟩, fun j hj hl => ?_, fun j hj hl k hk' => ?_, fun j hj hl => ?_⟩
      · rw [hk 2 (by omega)] at hl
        exact VJ_cong (hk 0 (by omega)) (hk 3 (by omega)) (fun k hk' => hk _ (by unfold ix; omega)) (v1 j hj hl)
      · rw [hk 2 (by omega)] at hl
        rw [hk _ (by unfold ix; omega)]; exact v2 j hj hl k hk'
      · rw [hk 2 (by omega)] at hl
        rw [hk _ (by unfold ix; omega), hk _ (by unfold ix; omega)]; exact v3 j hj hl
  · rw [Bool.not_eq_true _ |>.mp hb, need_2, clpm_l, b01_ite, if_neg (by decide), m_raises, cl_e]
    exact ⟨_, _, _, _, rfl, rfl, ⟨0, rfl, by rw [ms_at, if_pos ⟨rfl, rfl⟩]; rfl⟩, I0.th 1⟩
theorem st_refusal (I : Inv Mx Mm) : ∃ rx vm Mm', fX9_refusal Mx = some rx ∧ fX10_refusal Mm = some (vm, Mm') ∧ Agr [4] rx vm Mm' ∧ Inv Mx Mm' := by
  have I0 := I.th 0
  unfold fX9_refusal fX10_refusal
  have e : Mx 0 9 = Mm 0 11 := I.2.2.2.2.2.2.1
  simp only [bnd_e, jn_e, e]
  have e11 : mset Mm 0 0 0 0 11 = Mm 0 11 := by rw [ms_at, if_neg (by omega)]
  by_cases hb : Mm 0 11 = 0
  · rw [if_pos hb, need_5', clpx_l, e11, if_pos hb, m_raises, cl_e]
    exact ⟨_, _, _, rfl, rfl, ⟨0, rfl, by rw [ms_at, if_pos ⟨rfl, rfl⟩]; rfl⟩, I0.th 1⟩
  · rw [if_neg hb, need_T', clpx_r, e11, if_neg hb]
    exact ⟨_, _, _, rfl, rfl, ⟨by rw [ms_at, if_pos ⟨rfl, rfl⟩], rfl⟩, I0⟩
theorem st_errorPosition (I : Inv Mx Mm) : ∃ v Mm', fX9_errorPosition Mx = some v ∧ fX10_errorPosition Mm = some (v, Mm') ∧ Inv Mx Mm' := by
  unfold fX9_errorPosition fX10_errorPosition
  refine ⟨_, _, rfl, ?_, I.th 0⟩
  rw [bnd_e, ms_at, if_neg (by omega), ← I.2.2.2.2.2.2.2.1]
theorem st_clearance (I : Inv Mx Mm) (p a b : Int32) : ∃ rx vm Mm', fX9_clearance Mx p a b = some rx ∧ fX10_clearance Mm p a b = some (vm, Mm') ∧ Agr [0] rx vm Mm' ∧ Inv Mx Mm' := by
  have I0 := I.th 0
  obtain ⟨N, hN⟩ : ∃ z, z = mset Mm 0 0 0 := ⟨_, rfl⟩
  rw [← hN] at I0
  obtain ⟨hR, hV, hH, hT⟩ := id I0
  have h00 : N 0 0 = 0 := by rw [hN, ms_at, if_pos ⟨rfl, rfl⟩]
  have bad : ∀ k : Int32 × Mem → Option (Int32 × Mem), k = (fun a3 => some (a3.1, a3.2)) → cl (fX10_raises N 1) (fun x7 M8 => k (x7, M8)) = some (0, mset N 0 0 1) := fun k hk => by rw [hk, m_raises, cl_e]
  unfold fX9_clearance fX10_clearance
  simp only [bnd_e, ← hN, jn_e]
  by_cases hj : inJ (N 1) p = true
  · obtain ⟨j, rfl, hj4, hl⟩ := inJ_ex hV hj
    have hJ := hV.2.1 j hj4 hl
    rw [m_ig hj4 (inJ_T hV hj4 hl), clp_e, b01_ite, m_ig hj4 (inJ_T hV hj4 hl), clp_e, b01_ite]
    by_cases ha : inG (N 1) j a = true
    · rw [if_pos ha, x_fw hR hV hj4 hl ha, clpx_r, grd_T (jb hj4), x_hg (hR.j hj4), clp_e]
      by_cases hb : inG (N 1) j b = true
      · obtain ⟨a, rfl, ha6, hal⟩ := inG_ex hJ ha
        obtain ⟨b, rfl, hb6, hbl⟩ := inG_ex hJ hb
        rw [if_pos hb, hb, need_T, clpx_r, x_clear (hR.j hj4) hl ha6 hb6, clp_e, m_clear hj4 ha6 hb6, clp_e]
        exact ⟨_, _, _, rfl, rfl, ⟨h00, rfl⟩, I0⟩
      · rw [if_neg hb, Bool.not_eq_true _ |>.mp hb, need_1, clpx_l, m_raises, cl_e]
        exact ⟨_, _, _, rfl, rfl, ⟨0, rfl, by rw [ms_at, if_pos ⟨rfl, rfl⟩]; rfl⟩, I0.th 1⟩
    · rw [if_neg ha, x_fw_nog hR hV hj4 hl (Bool.not_eq_true _ |>.mp ha), clpx_l, m_raises, cl_e]
      exact ⟨_, _, _, rfl, rfl, ⟨0, rfl, by rw [ms_at, if_pos ⟨rfl, rfl⟩]; rfl⟩, I0.th 1⟩
  · have hj' := Bool.not_eq_true _ |>.mp hj
    rw [x_fw_noj hR hj', clpx_l, m_ig_no hj', clp_e, if_pos rfl, m_raises, cl_e]
    exact ⟨_, _, _, rfl, rfl, ⟨0, rfl, by rw [ms_at, if_pos ⟨rfl, rfl⟩]; rfl⟩, I0.th 1⟩
end O1
