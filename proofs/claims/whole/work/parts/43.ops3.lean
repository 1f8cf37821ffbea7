/-! calls: shows, greenOf, peace, dark, mount, groupTold -/
theorem plan_ex {q : Int32} (h : (decide (0 ≤ q) && decide (q ≤ 1)) = true) : ∃ p : Nat, q = nI p ∧ p < 2 := by
  have h1 := dec_ct h
  have e0 : Int32.toInt 0 = 0 := rfl
  have e1 : Int32.toInt 1 = 1 := rfl
  rw [e0, e1] at h1
  obtain ⟨p, h2, h3, h4⟩ := bt_nI h1
  exact ⟨p, h2, by omega⟩
theorem inb_ex {x : Int32} {n : Nat} (h : bt x 0 n) : ∃ k : Nat, x = nI k ∧ k ≤ n := by
  obtain ⟨p, h2, h3, h4⟩ := bt_nI h
  exact ⟨p, h2, by omega⟩
/-- a call that fails: the class throws e, the reference has code c + 1 -/
theorem fin_x {Mx N : Mem} (I0 : Inv Mx N) {xs : List Nat} {e : Nat} (c : Nat) (h : xs[c]? = some e) (v w : Int32) (hw : w = nI (c + 1)) : Agr xs (.inl e) v (mset N 0 0 w) ∧ Inv Mx (mset N 0 0 w) := by
  subst hw
  exact ⟨⟨c, h, by rw [ms_at, if_pos ⟨rfl, rfl⟩]⟩, I0.th _⟩
theorem x_setGreen {M : Mem} {J p g : Nat} (hp : p < 2) (hg : g < 6) (f l : Int32) : fX2_setGreen M J (nI p) (nI g) f l = some ((), mset (mset M (J + 8) (6 * p + g) f) (J + 9) (6 * p + g) l) := by
  unfold fX2_setGreen
  rw [i6, grd_T (inb_nI (by omega) (by omega)), nI_clamp (by omega), bnd_e, grd_T (inb_nI (by omega) (by omega)), bnd_e]
theorem x_setClear {M : Mem} {J a b : Nat} (ha : a < 6) (hb : b < 6) (x y : Int32) : fX2_setClearances M J (nI a) (nI b) x y = some ((), mset (mset M (J + 7) (6 * a + b) x) (J + 7) (6 * b + a) y) := by
  unfold fX2_setClearances
  rw [i6, i6, grd_T (inb_nI (by omega) (by omega)), nI_clamp (by omega), nI_clamp (by omega), bnd_e, grd_T (inb_nI (by omega) (by omega)), bnd_e]
section O3
variable {Mx Mm : Mem}
theorem st_shows (I : Inv Mx Mm) (p q s : Int32) : ∃ rx vm Mm', fX9_shows Mx p q s = some rx ∧ fX10_shows Mm p q s = some (vm, Mm') ∧ Agr [0, 1] rx vm Mm' ∧ Inv Mx Mm' := by
  have I0 := I.th 0
  obtain ⟨N, hN⟩ : ∃ z, z = mset Mm 0 0 0 := ⟨_, rfl⟩
  rw [← hN] at I0
  obtain ⟨hR, hV, hH, hT⟩ := id I0
  have h00 : N 0 0 = 0 := by rw [hN, ms_at, if_pos ⟨rfl, rfl⟩]
  have hc := hV.c0
  unfold fX9_shows fX10_shows
  simp only [bnd_e, ← hN, jn_e]
  by_cases hj : inJ (N 1) p = true
  · obtain ⟨j, rfl, hj4, hl⟩ := inJ_ex hV hj
    have hJ := hV.2.1 j hj4 hl
    obtain ⟨n, hn6, hn⟩ := hJ.sz
    rw [x_found hR hV hj4 hl, clpx_r, grd_T (jb hj4), f_isPlan, clp_e, m_ip hj, clp_e, b01_ite]
    by_cases hq : (decide (0 ≤ q) && decide (q ≤ 1)) = true
    · obtain ⟨q, rfl, hq2⟩ := plan_ex hq
      rw [if_pos hq, hq, need_T, clpx_r, f_isWithin, clp_e, hR.w0, grd_T ib0, tc0, f_in, clp_e]
      by_cases hs : (decide (0 ≤ s) && decide (s ≤ N 1 0 - 1)) = true
      · rw [hs, need_T, clpx_r, x_onSet (hR.j hj4) hn hn6 hq2 s hc, clp_e, b01_ite, if_pos rfl, m_shown hj4 hn hn6 hq2 s hc, clp_e]
        exact ⟨_, _, _, rfl, rfl, ⟨h00, rfl⟩, I0⟩
      · rw [Bool.not_eq_true _ |>.mp hs, need_2, clpx_l, b01_ite, if_neg (by decide), m_raises, cl_e]
        exact ⟨_, _, _, rfl, rfl, fin_x I0 1 rfl _ _ rfl⟩
    · rw [if_neg hq, Bool.not_eq_true _ |>.mp hq, need_1, clpx_l, m_raises, cl_e]
      exact ⟨_, _, _, rfl, rfl, fin_x I0 0 rfl _ _ rfl⟩
  · have hj' := Bool.not_eq_true _ |>.mp hj
    rw [x_found_no hR hj', clpx_l, m_ip_no hj', clp_e, if_pos rfl, m_raises, cl_e]
    exact ⟨_, _, _, rfl, rfl, fin_x I0 0 rfl _ _ rfl⟩
theorem ln0 {A : Ar} {j p g : Nat} (v : VJ A j) (hp : p < 2) (hg : g < 6) : gr A j p g = !decide (ln A j p g = 0) := by
  have h := ((v.2.2.2.2.2.2.1 g hg).2.2.2.2.2.2.2.1 p hp).2.1.1
  have h0 : Int32.toInt 0 = 0 := rfl
  unfold gr
  by_cases c : ln A j p g = 0
  · rw [c]; rfl
  · rw [decide_eq_false c, decide_eq_true]; rfl
    rw [ti_eq] at c
    rw [ti_lt]
    omega
theorem st_greenOf (I : Inv Mx Mm) (p q g : Int32) (b : Int32) : ∃ rx vm Mm', fX9_greenOf Mx p q g b = some rx ∧ fX10_greenOf Mm p q g b = some (vm, Mm') ∧ Agr [0, 4] rx vm Mm' ∧ Inv Mx Mm' := by
  have I0 := I.th 0
  obtain ⟨N, hN⟩ : ∃ z, z = mset Mm 0 0 0 := ⟨_, rfl⟩
  rw [← hN] at I0
  obtain ⟨hR, hV, hH, hT⟩ := id I0
  have h00 : N 0 0 = 0 := by rw [hN, ms_at, if_pos ⟨rfl, rfl⟩]
  unfold fX9_greenOf fX10_greenOf
  simp only [bnd_e, ← hN, jn_e]
  by_cases hj : inJ (N 1) p = true
  · obtain ⟨j, rfl, hj4, hl⟩ := inJ_ex hV hj
    have hJ := hV.2.1 j hj4 hl
    rw [m_ip hj, clp_e, b01_ite, m_ig hj4 hj, clp_e, b01_ite]
    by_cases hg : inG (N 1) j g = true
    · obtain ⟨g, rfl, hg6, hgl⟩ := inG_ex hJ hg
      rw [x_fw hR hV hj4 hl hg, clpx_r, grd_T (jb hj4), f_isPlan, clp_e, if_pos hg]
      by_cases hq : (decide (0 ≤ q) && decide (q ≤ 1)) = true
      · obtain ⟨q, rfl, hq2⟩ := plan_ex hq
        rw [if_pos hq, hq, need_T, clpx_r, x_green (hR.j hj4) hq2 hg6, clp_e, m_length hj4 hq2 hg6, clp_e, ln0 hJ hq2 hg6]
        by_cases hz : ln (N 1) j q g = 0
        · rw [decide_eq_true hz, if_pos hz, Bool.not_true, need_5, clpx_l, m_raises, cl_e]
          exact ⟨_, _, _, rfl, rfl, fin_x I0 1 rfl _ _ rfl⟩
        · rw [decide_eq_false hz, if_neg hz, Bool.not_false, need_T, clpx_r, x_first (hR.j hj4) hq2 hg6, x_length (hR.j hj4) hq2 hg6, m_first hj4 hq2 hg6]
          simp only [clp_e]
          by_cases hb : b = 0
          · rw [if_pos hb, if_pos hb]
            exact ⟨_, _, _, rfl, rfl, ⟨h00, rfl⟩, I0⟩
          · rw [if_neg hb, if_neg hb]
            exact ⟨_, _, _, rfl, rfl, ⟨h00, rfl⟩, I0⟩
      · rw [if_neg hq, Bool.not_eq_true _ |>.mp hq, need_1, clpx_l, m_raises, cl_e]
        exact ⟨_, _, _, rfl, rfl, fin_x I0 0 rfl _ _ rfl⟩
    · rw [x_fw_nog hR hV hj4 hl (Bool.not_eq_true _ |>.mp hg), clpx_l, if_neg hg, m_raises, cl_e]
      by_cases hq : (decide (0 ≤ q) && decide (q ≤ 1)) = true
      · rw [if_pos hq]
        exact ⟨_, _, _, rfl, rfl, fin_x I0 0 rfl _ _ rfl⟩
      · rw [if_neg hq]
        exact ⟨_, _, _, rfl, rfl, fin_x I0 0 rfl _ _ rfl⟩
  · have hj' := Bool.not_eq_true _ |>.mp hj
    rw [x_fw_noj hR hj', clpx_l, m_ip_no hj', clp_e, if_pos rfl, m_raises, cl_e]
    exact ⟨_, _, _, rfl, rfl, fin_x I0 0 rfl _ _ rfl⟩
theorem st_peace (I : Inv Mx Mm) (p a b : Int32) : ∃ rx Mx' vm Mm', fX9_peace Mx p a b = some (rx, Mx') ∧ fX10_peace Mm p a b = some (vm, Mm') ∧ Agr [0, 4] rx vm Mm' ∧ Inv Mx' Mm' := by
  have I0 := I.th 0
  obtain ⟨N, hN⟩ : ∃ z, z = mset Mm 0 0 0 := ⟨_, rfl⟩
  rw [← hN] at I0
  obtain ⟨hR, hV, hH, hT⟩ := id I0
  have h00 : N 0 0 = 0 := by rw [hN, ms_at, if_pos ⟨rfl, rfl⟩]
  unfold fX9_peace fX10_peace
  simp only [bnd_e, ← hN, jn_e]
  by_cases hj : inJ (N 1) p = true
  · obtain ⟨j, rfl, hj4, hl⟩ := inJ_ex hV hj
    have hJ := hV.2.1 j hj4 hl
    rw [m_ig hj4 hj, clp_e, b01_ite, m_ig hj4 hj, clp_e, b01_ite]
    by_cases ha : inG (N 1) j a = true
    · rw [x_fw hR hV hj4 hl ha, clpm_r, grd_T (jb hj4), x_hg (hR.j hj4), clp_e, if_pos ha]
      by_cases hb : inG (N 1) j b = true
      · obtain ⟨a, rfl, ha6, hal⟩ := inG_ex hJ ha
        obtain ⟨b, rfl, hb6, hbl⟩ := inG_ex hJ hb
        rw [if_pos hb, hb, need_T, clpm_r, x_conf (hR.j hj4) hl hJ ha6 hb6, clp_e, m_clear hj4 ha6 hb6, clp_e]
        by_cases hk : 0 ≤ kl (N 1) j a b
        · obtain ⟨Mx1, K, a1, a2, a3, a4, a5, a6, a7, a8⟩ := changes_ok I0
          have k1 : K 1 = N 1 := a3 1 (by omega) (by omega) (by omega)
          have hab := ((hJ.2.2.2.2.2.2.2 a ha6 b hb6).2.2.1 hk).1
          have c1 : fX10_clear K (nI j) (nI b) (nI a) = some (kl (N 1) j b a) := by rw [m_clear hj4 hb6 ha6, k1]
          rw [if_pos hk, show cf (N 1) j a b = true from decide_eq_true hk, need_T, clpm_r, a1, cl_e, x_clear (a7.j hj4) hl ha6 hb6, clp_e, x_clear (a7.j hj4) hl hb6 ha6, clp_e, x_setClear ha6 hb6, cl_e, a2, cl_e, c1, clp_e, m_clears _ hj4 ha6 hb6, cl_e, m_clears _ hj4 hb6 ha6, cl_e]
          have e2 : upd (N 1) (cx j a b) (-1) 2 = N 1 2 := pk_un (by unfold cx; omega)
          refine ⟨_, _, _, _, rfl, rfl, ⟨?_, rfl⟩, Inv.of ?_ ?_ (XF.set (XF.set (XF.rf Mx1) (by omega)) (by omega)) (MF.set1 (MF.set1 (MF.rf K))) a5 a6⟩
          · rw [ms_other _ _ _ (by omega), ms_other _ _ _ (by omega), a4 0 (by omega), h00]
          · rw [ms_same, ms_same, k1]
            exact RS_lift a7 hj4 (fun o _ _ ho => by rw [ms_other _ _ _ (by omega), ms_other _ _ _ (by omega)]) (by rw [ms_other _ _ _ (by omega), ms_other _ _ _ (by omega)]) (by rw [ms_other _ _ _ (by omega), ms_other _ _ _ (by omega)]) (fun k hk => by rw [pk_un (by unfold ix at hk; unfold cx; omega), pk_un (by unfold ix at hk; unfold cx; omega)]) (u_cl hb6 ha6 (by rw [e2]; exact hl) (-1) (u_cl ha6 hb6 hl (-1) (a7.j hj4)))
          · rw [ms_same, ms_same, k1]
            have hm : bt (-1) (-1) 20 := by unfold bt; decide
            exact Val_lift hV hj4 hl (fun k hk => by rw [pk_un (by unfold ix at hk; unfold cx; omega), pk_un (by unfold ix at hk; unfold cx; omega)]) (by rw [pk_un (by unfold ix cx; omega), pk_un (by unfold ix cx; omega)]) (V_cl ha6 hb6 hab hal hbl hJ hm hm Iff.rfl (fun z => absurd z (by decide)))
        · rw [if_neg hk, show cf (N 1) j a b = false from decide_eq_false hk, need_5, clpm_l, m_raises, cl_e]
          exact ⟨_, _, _, _, rfl, rfl, fin_x I0 1 rfl _ _ rfl⟩
      · rw [if_neg hb, Bool.not_eq_true _ |>.mp hb, need_1, clpm_l, m_raises, cl_e]
        exact ⟨_, _, _, _, rfl, rfl, fin_x I0 0 rfl _ _ rfl⟩
    · rw [if_neg ha, x_fw_nog hR hV hj4 hl (Bool.not_eq_true _ |>.mp ha), clpm_l, m_raises, cl_e]
      exact ⟨_, _, _, _, rfl, rfl, fin_x I0 0 rfl _ _ rfl⟩
  · have hj' := Bool.not_eq_true _ |>.mp hj
    rw [x_fw_noj hR hj', clpm_l, m_ig_no hj', clp_e, if_pos rfl, m_raises, cl_e]
    exact ⟨_, _, _, _, rfl, rfl, fin_x I0 0 rfl _ _ rfl⟩
theorem st_dark (I : Inv Mx Mm) (p q g : Int32) : ∃ rx Mx' vm Mm', fX9_dark Mx p q g = some (rx, Mx') ∧ fX10_dark Mm p q g = some (vm, Mm') ∧ Agr [0, 2] rx vm Mm' ∧ Inv Mx' Mm' := by
  have I0 := I.th 0
  obtain ⟨N, hN⟩ : ∃ z, z = mset Mm 0 0 0 := ⟨_, rfl⟩
  rw [← hN] at I0
  obtain ⟨hR, hV, hH, hT⟩ := id I0
  have h00 : N 0 0 = 0 := by rw [hN, ms_at, if_pos ⟨rfl, rfl⟩]
  unfold fX9_dark fX10_dark
  simp only [bnd_e, ← hN, jn_e]
  by_cases hj : inJ (N 1) p = true
  · obtain ⟨j, rfl, hj4, hl⟩ := inJ_ex hV hj
    have hJ := hV.2.1 j hj4 hl
    rw [m_ip hj, clp_e, b01_ite, m_ig hj4 hj, clp_e, b01_ite]
    by_cases hg : inG (N 1) j g = true
    · obtain ⟨g, rfl, hg6, hgl⟩ := inG_ex hJ hg
      rw [x_fw hR hV hj4 hl hg, clpm_r, grd_T (jb hj4), f_isPlan, clp_e, if_pos hg]
      by_cases hq : (decide (0 ≤ q) && decide (q ≤ 1)) = true
      · obtain ⟨q, rfl, hq2⟩ := plan_ex hq
        rw [if_pos hq, hq, need_T, clpm_r, x_planned (hR.j hj4) hl hJ, clp_e, b01_ite, m_of4 hj4, clp_e]
        by_cases hch : N 1 (ix j 4) < 0
        · obtain ⟨Mx1, K, a1, a2, a3, a4, a5, a6, a7, a8⟩ := changes_ok I0
          have k1 : K 1 = N 1 := a3 1 (by omega) (by omega) (by omega)
          have c1 : fX10_length K (nI j) (nI q) (nI g) = some (ln (N 1) j q g) := by rw [m_length hj4 hq2 hg6, k1]
          rw [if_neg (by rw [decide_eq_true_iff, ti_le]; rw [ti_lt] at hch; omega), need_T', clpm_r, a1, cl_e, x_length (a7.j hj4) hq2 hg6, clp_e, x_setGreen hq2 hg6, cl_e, if_pos hch, a2, cl_e, c1, clp_e, m_puts _ _ hj4 hq2 hg6, cl_e]
          refine ⟨_, _, _, _, rfl, rfl, ⟨?_, rfl⟩, Inv.of ?_ ?_ (XF.set (XF.set (XF.rf Mx1) (by omega)) (by omega)) (MF.set1 (MF.set1 (MF.rf K))) a5 a6⟩
          · rw [ms_other _ _ _ (by omega), ms_other _ _ _ (by omega), a4 0 (by omega), h00]
          · rw [ms_same, ms_same, k1]
            exact RS_lift a7 hj4 (fun o _ _ ho => by rw [ms_other _ _ _ (by omega), ms_other _ _ _ (by omega)]) (by rw [ms_other _ _ _ (by omega), ms_other _ _ _ (by omega)]) (by rw [ms_other _ _ _ (by omega), ms_other _ _ _ (by omega)]) (fun k hk => by rw [pk_un (by unfold ix at hk; unfold gx; omega), pk_un (by unfold ix at hk; unfold gx; omega)]) (u_ln hq2 hg6 0 (u_fs hq2 hg6 0 (a7.j hj4)))
          · rw [ms_same, ms_same, k1]
            have hc := hV.1.1.1
            have z0 : Int32.toInt 0 = 0 := rfl
            exact Val_lift hV hj4 hl (fun k hk => by rw [pk_un (by unfold ix at hk; unfold gx; omega), pk_un (by unfold ix at hk; unfold gx; omega)]) (by rw [pk_un (by unfold ix gx; omega), pk_un (by unfold ix gx; omega)]) (V_gr hq2 hg6 hgl hJ (by unfold bt; omega) (by unfold bt; omega) (fun _ => rfl) (fun z => absurd z (by decide)))
        · rw [if_pos (by rw [decide_eq_true_iff, ti_le]; rw [ti_lt] at hch; omega), need_3', clpm_l, if_neg hch, m_raises, cl_e]
          exact ⟨_, _, _, _, rfl, rfl, fin_x I0 1 rfl _ _ rfl⟩
      · rw [if_neg hq, Bool.not_eq_true _ |>.mp hq, need_1, clpm_l, m_raises, cl_e]
        exact ⟨_, _, _, _, rfl, rfl, fin_x I0 0 rfl _ _ rfl⟩
    · rw [x_fw_nog hR hV hj4 hl (Bool.not_eq_true _ |>.mp hg), clpm_l, if_neg hg, m_raises, cl_e]
      by_cases hq : (decide (0 ≤ q) && decide (q ≤ 1)) = true
      · rw [if_pos hq]
        exact ⟨_, _, _, _, rfl, rfl, fin_x I0 0 rfl _ _ rfl⟩
      · rw [if_neg hq]
        exact ⟨_, _, _, _, rfl, rfl, fin_x I0 0 rfl _ _ rfl⟩
  · have hj' := Bool.not_eq_true _ |>.mp hj
    rw [x_fw_noj hR hj', clpm_l, m_ip_no hj', clp_e, if_pos rfl, m_raises, cl_e]
    exact ⟨_, _, _, _, rfl, rfl, fin_x I0 0 rfl _ _ rfl⟩
end O3
