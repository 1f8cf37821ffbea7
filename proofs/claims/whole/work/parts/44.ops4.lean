/-! calls: mount, groupTold, cycle -/
def tkh (kd hd : Int32) : Bool := if kd = 0 then !decide (1 < hd) else if kd = 1 then decide (hd = 2) else true
theorem x_takesHead {M : Mem} {J : Nat} {A : Ar} {j : Nat} (h : RJ M J A j) {g : Nat} (hg : g < 6) (hd : Int32) : fX2_takesHead M J (nI g) hd = some (b01 (tkh (A (gx j g 0)) hd)) := by
  unfold fX2_takesHead
  rw [grd_T (inb_nI hg (by omega)), nI_clamp (by omega), h.kd hg]
  unfold tkh
  simp only [jn_e]
  by_cases c0 : A (gx j g 0) = 0
  · rw [if_pos c0, if_pos c0]
    by_cases c : 1 < hd
    · rw [if_pos c, decide_eq_true c]; rfl
    · rw [if_neg c, decide_eq_false c]; rfl
  · rw [if_neg c0, if_neg c0]
    by_cases c1 : A (gx j g 0) = 1
    · rw [if_pos c1, if_pos c1]
      by_cases c : hd = 2
      · rw [if_pos c, decide_eq_true c]; rfl
      · rw [if_neg c, decide_eq_false c]; rfl
    · rw [if_neg c1, if_neg c1]; rfl
section O4
variable {Mx Mm : Mem}
theorem st_mount (I : Inv Mx Mm) (p g q hd : Int32) : ∃ rx Mx' vm Mm', fX9_mount Mx p g q hd = some (rx, Mx') ∧ fX10_mount Mm p g q hd = some (vm, Mm') ∧ Agr [0, 1, 3] rx vm Mm' ∧ Inv Mx' Mm' := by
  have I0 := I.th 0
  obtain ⟨N, hN⟩ : ∃ z, z = mset Mm 0 0 0 := ⟨_, rfl⟩
  rw [← hN] at I0
  obtain ⟨hR, hV, hH, hT⟩ := id I0
  have h00 : N 0 0 = 0 := by rw [hN, ms_at, if_pos ⟨rfl, rfl⟩]
  unfold fX9_mount fX10_mount
  simp only [bnd_e, ← hN, jn_e]
  by_cases hj : inJ (N 1) p = true
  · obtain ⟨j, rfl, hj4, hl⟩ := inJ_ex hV hj
    have hJ := hV.2.1 j hj4 hl
    rw [m_ig hj4 hj, clp_e, b01_ite, f_in, clp_e, b01_ite, f_in, clp_e, b01_ite]
    by_cases hg : inG (N 1) j g = true
    · obtain ⟨g, rfl, hg6, hgl⟩ := inG_ex hJ hg
      rw [x_fw hR hV hj4 hl hg, clpm_r, grd_T (jb hj4), f_isWithin, clp_e, if_pos hg]
      by_cases hq : (decide (0 ≤ q) && decide (q ≤ 2)) = true
      · obtain ⟨q, rfl, hq3⟩ := inb_ex (n := 2) (dec_ct hq)
        rw [if_pos hq, hq, need_T, clpm_r, f_isWithin, clp_e]
        by_cases hh : (decide (0 ≤ hd) && decide (hd ≤ 3)) = true
        · have hb := dec_ct hh
          have z0 : Int32.toInt 0 = 0 := rfl
          have z3 : Int32.toInt 3 = 3 := rfl
          rw [if_pos hh, hh, need_T, clpm_r, x_takesHead (hR.j hj4) hg6, clp_e, b01_ite, m_g0 hj4 hg6, clp_e]
          have good : tkh (N 1 (gx j g 0)) hd = true → ∃ rx Mx' vm Mm', (cl (fX9_faultOfReason Mx 0) fun x9 M10 => clpm M10 (fX9_raise M10 x9) fun _ => cl (fX1_push M10 1) fun _ M13 => grd (inb (nI g * 3 + nI q) 18) (clp (fX2_headCount (mset M13 (1 + 2 + 10 * j + 6) (nI g * 3 + nI q).toNatClampNeg hd) (1 + 2 + 10 * j) (nI g)) fun x15 => some (Sum.inr x15, mset M13 (1 + 2 + 10 * j + 6) (nI g * 3 + nI q).toNatClampNeg hd))) = some (rx, Mx') ∧ (cl (fX10_changes N) fun _ M19 => clp (fX10_groupAt M19 (nI j) (nI g)) fun x20 => grd (inb (x20 + 6 + nI q) 490) (clp (fX10_heads (mset M19 1 (x20 + 6 + nI q).toNatClampNeg hd) (nI j) (nI g)) fun x22 => some (x22, mset M19 1 (x20 + 6 + nI q).toNatClampNeg hd))) = some (vm, Mm') ∧ Agr [0, 1, 3] rx vm Mm' ∧ Inv Mx' Mm' := by
            intro _
            obtain ⟨Mx1, K, a1, a2, a3, a4, a5, a6, a7, a8⟩ := changes_ok I0
            have k1 : K 1 = N 1 := a3 1 (by omega) (by omega) (by omega)
            have rj := u_hd hg6 (show q < 3 by omega) hgl hd (a7.j hj4)
            have vj : VJ (upd (N 1) (gx j g (6 + q)) hd) j := V_gx hg6 hgl (by omega) hJ (by omega) (by omega) (by omega) (fun _ => by unfold bt; have := hb.1; have := hb.2; omega)
            have e2 : upd (N 1) (gx j g (6 + q)) hd (ix j 2) = N 1 (ix j 2) := pk_un (by unfold ix gx; omega)
            have hc1 : mset K 1 (gx j g (6 + q)) hd 1 = upd (N 1) (gx j g (6 + q)) hd := by rw [ms_same, k1]
            unfold fX9_faultOfReason fX10_groupAt
            have ex : (6 : Int32) + 121 * nI j + 7 + 13 * nI g + 6 + nI q = nI (gx j g (6 + q)) := by
              rw [at_g]
              show nI _ + nI 6 + nI q = _
              rw [nI_add, nI_add]; exact congrArg nI (by unfold gx; omega)
            rw [if_pos rfl, cl_e, raise_0, clpm_r, a1, cl_e, i3, grd_T (inb_nI (by omega) (by omega)), nI_clamp (by omega), x_headCount rj vj hg6 (by rw [e2]; exact hgl), clp_e, a2, cl_e, clp_e, ex, grd_T (ib 490 (by unfold gx; omega) (by omega)), nI_clamp (by unfold gx; omega), m_heads hj4 hg6, clp_e, hc1]
            refine ⟨_, _, _, _, rfl, rfl, ⟨?_, rfl⟩, Inv.of ?_ ?_ (XF.set (XF.rf Mx1) (by omega)) (MF.set1 (MF.rf K)) a5 a6⟩
            · rw [ms_other _ _ _ (by omega), a4 0 (by omega), h00]
            · rw [hc1]
              exact RS_lift a7 hj4 (fun o _ _ ho => by rw [ms_other _ _ _ (by omega)]) (by rw [ms_other _ _ _ (by omega)]) (by rw [ms_other _ _ _ (by omega)]) (fun k hk => pk_un (by unfold ix at hk; unfold gx; omega)) rj
            · rw [hc1]
              exact Val_lift hV hj4 hl (fun k hk => pk_un (by unfold ix at hk; unfold gx; omega)) (pk_un (by unfold ix gx; omega)) vj
          have bad : ∃ rx Mx' vm Mm', (cl (fX9_faultOfReason Mx 8) fun x9 M10 => clpm M10 (fX9_raise M10 x9) fun _ => cl (fX1_push M10 1) fun _ M13 => grd (inb (nI g * 3 + nI q) 18) (clp (fX2_headCount (mset M13 (1 + 2 + 10 * j + 6) (nI g * 3 + nI q).toNatClampNeg hd) (1 + 2 + 10 * j) (nI g)) fun x15 => some (Sum.inr x15, mset M13 (1 + 2 + 10 * j + 6) (nI g * 3 + nI q).toNatClampNeg hd))) = some (rx, Mx') ∧ (cl (fX10_refuses N 8 3) fun x12 M13 => some (x12, M13)) = some (vm, Mm') ∧ Agr [0, 1, 3] rx vm Mm' ∧ Inv Mx' Mm' := by
            unfold fX9_faultOfReason
            rw [if_neg (by decide), bnd_e, cl_e, raise_4, clpm_l, m_refuses, cl_e]
            obtain ⟨⟨s1, s2⟩, ⟨l, t1, t2, t3, t4⟩, ⟨r, u1, u2, u3, u4⟩, w1, w2, w3, w4⟩ := hT
            refine ⟨_, _, _, _, rfl, rfl, ⟨2, rfl, by rw [ms_at, if_pos ⟨rfl, rfl⟩]; rfl⟩, ?_, ?_, ?_, ?_, ?_, ?_, ?_⟩
            · rw [ms_other _ _ _ (by omega), ms_other _ _ _ (by omega)]; exact RS_frame (fun o _ _ => ms_other _ _ _ (by omega)) hR
            · rw [ms_other _ _ _ (by omega), ms_other _ _ _ (by omega)]; exact hV
            · exact HR_frame (fun o _ _ => ms_other _ _ _ (by omega)) (by rw [ms_other _ _ _ (by omega), ms_other _ _ _ (by omega)]) (by rw [ms_at, if_neg (by omega), ms_at, if_neg (by omega)]) hH
            · refine ⟨by rw [ms_at, if_neg (by omega), ms_at, if_neg (by omega), ms_at, if_neg (by omega)]; exact s1, ?_⟩
              rw [ms_at, if_neg (by omega), ms_at, if_neg (by omega), ms_other _ _ _ (by omega), ms_other _ _ _ (by omega)]
              rcases s2 with s2 | ⟨s2, s3, s4⟩
              · exact Or.inl s2
              · exact Or.inr ⟨s2, RS_frame (fun o _ _ => ms_other _ _ _ (by omega)) s3, s4⟩
            · exact ⟨l, t1, by rw [ms_other _ _ _ (by omega)]; exact t2, by rw [ms_at, if_neg (by omega), ms_at, if_neg (by omega)]; exact t3, fun k hk => by rw [ms_other _ _ _ (by omega), ms_other _ _ _ (by omega), ms_other _ _ _ (by omega)]; exact t4 k hk⟩
            · exact ⟨r, u1, by rw [ms_other _ _ _ (by omega)]; exact u2, by rw [ms_at, if_neg (by omega), ms_at, if_neg (by omega)]; exact u3, fun k hk => by rw [ms_other _ _ _ (by omega), ms_other _ _ _ (by omega), ms_other _ _ _ (by omega)]; exact u4 k hk⟩
            · refine ⟨by rw [ms_at, if_pos ⟨rfl, rfl⟩, ms_at, if_neg (by omega), ms_at, if_pos ⟨rfl, rfl⟩], by rw [ms_at, if_neg (by omega), ms_at, if_neg (by omega), ms_at, if_neg (by omega)]; exact w2, ?_, ?_⟩
              · rw [ms_at, if_neg (by omega), ms_at, if_pos ⟨rfl, rfl⟩]; unfold bt; decide
              · rw [ms_at, if_neg (by omega), ms_at, if_neg (by omega)]; exact w4
          by_cases c0 : N 1 (gx j g 0) = 0
          · rw [if_pos c0]
            by_cases c : 1 < hd
            · rw [if_pos c, show tkh (N 1 (gx j g 0)) hd = false by unfold tkh; rw [if_pos c0, decide_eq_true c]; rfl, if_neg (by decide)]
              exact bad
            · have ht : tkh (N 1 (gx j g 0)) hd = true := by unfold tkh; rw [if_pos c0, decide_eq_false c]; rfl
              rw [if_neg c, ht, if_pos rfl, if_neg (by rw [c0]; decide)]
              exact good ht
          · rw [if_neg c0]
            by_cases c1 : N 1 (gx j g 0) = 1
            · rw [if_pos c1]
              by_cases c : hd = 2
              · have ht : tkh (N 1 (gx j g 0)) hd = true := by unfold tkh; rw [if_neg c0, if_pos c1, decide_eq_true c]
                rw [if_pos c, ht, if_pos rfl]
                exact good ht
              · rw [if_neg c, show tkh (N 1 (gx j g 0)) hd = false by unfold tkh; rw [if_neg c0, if_pos c1, decide_eq_false c], if_neg (by decide)]
                exact bad
            · have ht : tkh (N 1 (gx j g 0)) hd = true := by unfold tkh; rw [if_neg c0, if_neg c1]
              rw [if_neg c1, ht, if_pos rfl]
              exact good ht
        · rw [if_neg hh, Bool.not_eq_true _ |>.mp hh, need_2, clpm_l, m_raises, cl_e]
          exact ⟨_, _, _, _, rfl, rfl, fin_x I0 1 rfl _ _ rfl⟩
      · rw [if_neg hq, Bool.not_eq_true _ |>.mp hq, need_1, clpm_l, m_raises, cl_e]
        exact ⟨_, _, _, _, rfl, rfl, fin_x I0 0 rfl _ _ rfl⟩
    · rw [x_fw_nog hR hV hj4 hl (Bool.not_eq_true _ |>.mp hg), clpm_l, if_neg hg, m_raises, cl_e]
      exact ⟨_, _, _, _, rfl, rfl, fin_x I0 0 rfl _ _ rfl⟩
  · have hj' := Bool.not_eq_true _ |>.mp hj
    rw [x_fw_noj hR hj', clpm_l, m_ig_no hj', clp_e, if_pos rfl, m_raises, cl_e]
    exact ⟨_, _, _, _, rfl, rfl, fin_x I0 0 rfl _ _ rfl⟩
end O4
