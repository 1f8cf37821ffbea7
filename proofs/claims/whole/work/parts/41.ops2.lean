/-! calls: offset, road, press -/
theorem cmd_offset {N : Mem} (V : Val (N 1)) (p s : Int32) : CmdOk N [0, 1, 2] (liftF (fun M => fX9_offsetFault M p s)) (fun M => fX9_setOffset M p s) (fX10_offsets N p s) := by
  have hc := V.c0
  unfold fX10_offsets
  rw [m_ij, clp_e, b01_ite]
  by_cases hj : inJ (N 1) p = true
  · obtain ⟨j, rfl, hj4, hl⟩ := inJ_ex V hj
    have hJ := V.2.1 j hj4 hl
    rw [if_pos hj, grd_T ib0, tc0, f_in, clp_e, b01_ite]
    by_cases hs : (decide (0 ≤ s) && decide (s ≤ N 1 0 - 1)) = true
    · rw [if_pos hs, m_of4 hj4, clp_e]
      by_cases hch : N 1 (ix j 4) < 0
      · refine Or.inr ⟨N 1 (ix j 1), _, by rw [if_pos hch, m_of1 hj4, clp_e, bnd_e]; unfold fX10_at; rw [clp_e, show (6 : Int32) + 121 * nI j + 1 = nI (ix j 1) from at_ix j 1, grd_T (ib 490 (by unfold ix; omega) (by omega)), nI_clamp (by unfold ix; omega), bnd_e], ?_, MFw.set1 (MFw.set0 (MFw.rf N) (by omega)), by rw [ms_other _ _ _ (by omega), ms_at, if_neg (by omega)], ?_, fun Mx hR => ⟨?_, ?_⟩⟩
        · rw [ms_other _ _ _ (by omega), ms_at, if_pos ⟨rfl, rfl⟩]
        · rw [ms_same, ms_other _ _ _ (by omega)]
          obtain ⟨q, h1, h2, h3⟩ := arg_in (x := N 1 0) ⟨by omega, by have := V.1.1.2; omega⟩ hs
          have hq : q < 120 := by have := V.1.1.2; omega
          refine Val_lift V hj4 hl (fun k hk => pk_un (by unfold ix at hk ⊢; omega)) (pk_un (by unfold ix; omega)) (V_ix (by omega) hJ (fun _ => ?_) (by omega) (by omega) (by omega))
          rw [h1]; unfold bt; rw [nI_toInt (by omega)]; omega
        · refine liftF_e ?_
          unfold fX9_offsetFault
          rw [x_find hR V hj4 hl, clpn_s, grd_T (jb hj4), hR.w0, f_isWithin, hs, clp_e, b01_ite, if_pos rfl, x_planned (hR.j hj4) hl hJ, decide_eq_false (by rw [ti_lt] at hch; rw [ti_le]; omega), clp_e, jn_e, b01_ite, if_neg (by decide)]
        · refine ⟨mset Mx (1 + 2 + 10 * j) 1 s, ?_, XF.set (XF.rf Mx) (by omega), ?_⟩
          · show fX9_setOffset Mx (nI j) s = _
            unfold fX9_setOffset
            rw [x_found hR V hj4 hl, clpm_r, grd_T (jb hj4), bnd_e, bnd_e, (hR.j hj4).w (by omega)]
          · rw [ms_same, ms_other _ _ _ (by omega)]
            exact RS_lift hR hj4 (fun o _ _ ho => ms_other _ _ _ (by omega)) (by rw [ms_at, if_neg (by omega)]) (by rw [ms_at, if_neg (by omega)]) (fun k hk => pk_un (by unfold ix at hk ⊢; omega)) (u_off s (hR.j hj4))
      · refine Or.inl (bad_pure 3 2 2 (by decide) (fun _ => raise_3) rfl (by omega) (by rw [if_neg hch]; rfl) (fun Mx hR => ?_))
        unfold fX9_offsetFault
        rw [x_find hR V hj4 hl, clpn_s, grd_T (jb hj4), hR.w0, f_isWithin, hs, clp_e, b01_ite, if_pos rfl, x_planned (hR.j hj4) hl hJ, decide_eq_true (by rw [ti_lt] at hch; rw [ti_le]; omega), clp_e, jn_e, b01_ite, if_pos rfl]
    · refine Or.inl (bad_pure 2 1 1 (by decide) (fun _ => raise_2) rfl (by omega) (by rw [if_neg hs]; rfl) (fun Mx hR => ?_))
      unfold fX9_offsetFault
      rw [x_find hR V hj4 hl, clpn_s, grd_T (jb hj4), hR.w0, f_isWithin, clp_e, b01_ite, if_neg hs]
  · refine Or.inl (bad_pure 1 0 0 (by decide) (fun _ => raise_1) rfl (by omega) (by rw [if_neg hj]; rfl) (fun Mx hR => ?_))
    unfold fX9_offsetFault
    rw [x_find_no hR (Bool.not_eq_true _ |>.mp hj), clpn_n]
theorem st_offset {Mx Mm : Mem} (I : Inv Mx Mm) (p s : Int32) : ∃ rx Mx' vm Mm', fX9_offset Mx p s = some (rx, Mx') ∧ fX10_offset Mm p s = some (vm, Mm') ∧ Agr [0, 1, 2] rx vm Mm' ∧ Inv Mx' Mm' := by
  have h := cmd_op I (fun N V => cmd_offset (N := N) V p s)
  rw [← liftF_cl (fun M => fX9_offsetFault M p s) Mx (fun x1 M2 => clpm M2 (fX9_raise M2 x1) (fun _ => cl (fX1_push M2 1) (fun _ M5 => clx (fX9_setOffset M5 p s) (fun x6 M7 => some (.inr x6, M7)))))] at h
  exact h
theorem cmd_road {N : Mem} (V : Val (N 1)) (p a b : Int32) : CmdOk N [0] (liftF (fun M => fX9_roadFault M p a b)) (fun M => fX9_setRoadGroups M p a b) (fX10_roads N p a b) := by
  unfold fX10_roads
  by_cases hj : inJ (N 1) p = true
  · obtain ⟨j, rfl, hj4, hl⟩ := inJ_ex V hj
    have hJ := V.2.1 j hj4 hl
    rw [m_ig hj4 hj, clp_e, jn_e, b01_ite, m_ig hj4 hj, clp_e, b01_ite]
    by_cases ha : inG (N 1) j a = true
    · rw [if_pos ha]
      by_cases hb : inG (N 1) j b = true
      · have e5 : (6 : Int32) + 121 * nI j + 5 = nI (ix j 5) := at_ix j 5
        have e6 : nI (ix j 5) + 1 = nI (ix j 6) := by rw [nI_1]; unfold ix; rfl
        have i5 : inb (nI (ix j 5)) 490 = true := ib 490 (by unfold ix; omega) (by omega)
        have i6 : inb (nI (ix j 6)) 490 = true := ib 490 (by unfold ix; omega) (by omega)
        obtain ⟨v, hv⟩ : ∃ v : Int32, v = if 0 ≤ N 1 (ix j 5) then 10 * N 1 (ix j 5) + N 1 (ix j 6) else -1 := ⟨_, rfl⟩
        refine Or.inr ⟨v, mset (mset (mset N 0 21 v) 1 (ix j 5) a) 1 (ix j 6) b, ?_, ?_, MFw.set1 (MFw.set1 (MFw.set0 (MFw.rf N) (by omega))), by rw [ms_other _ _ _ (by omega), ms_other _ _ _ (by omega), ms_at, if_neg (by omega)], ?_, fun Mx hR => ⟨?_, ?_⟩⟩
        · rw [if_pos hb]
          unfold fX10_at
          simp only [clp_e, bnd_e, jn_e, e5, e6, grd_T i5, grd_T i6, nI_clamp (show ix j 5 < 2 ^ 31 by unfold ix; omega), nI_clamp (show ix j 6 < 2 ^ 31 by unfold ix; omega)]
          by_cases c : 0 ≤ N 1 (ix j 5)
          · rw [if_pos c] at hv; rw [if_pos c, hv]
          · rw [if_neg c] at hv; rw [if_neg c, hv]
        · rw [ms_other _ _ _ (by omega), ms_other _ _ _ (by omega), ms_at, if_pos ⟨rfl, rfl⟩]
        · obtain ⟨a', rfl, ha6, hal⟩ := inG_ex hJ ha
          obtain ⟨b', rfl, hb6, hbl⟩ := inG_ex hJ hb
          rw [ms_same, ms_same, ms_other _ _ _ (by omega)]
          have h1 := V_ix (A := N 1) (j := j) (k := 5) (v := nI a') (by omega) hJ (by omega) (by omega) (by omega) (fun _ => by
            rw [ti_lt, nI_toInt (by omega)] at hal; unfold bt; rw [nI_toInt (by omega)]; omega)
          have e2 : upd (N 1) (ix j 5) (nI a') (ix j 2) = N 1 (ix j 2) := pk_un (by unfold ix; omega)
          have h2 := V_ix (A := upd (N 1) (ix j 5) (nI a')) (j := j) (k := 6) (v := nI b') (by omega) h1 (by omega) (by omega) (by omega) (fun _ => by
            rw [ti_lt, nI_toInt (by omega)] at hbl; unfold bt; rw [nI_toInt (by omega), e2]; omega)
          exact Val_lift V hj4 hl (fun k hk => by rw [pk_un (by unfold ix at hk ⊢; omega), pk_un (by unfold ix at hk ⊢; omega)]) (by rw [pk_un (by unfold ix; omega), pk_un (by unfold ix; omega)]) h2
        · refine liftF_e ?_
          show fX9_roadFault Mx (nI j) a b = some 0
          unfold fX9_roadFault
          rw [x_find hR V hj4 hl, clpn_s, grd_T (jb hj4), x_hg (hR.j hj4), clp_e, b01_ite, if_pos ha, x_hg (hR.j hj4), clp_e, b01_ite, if_pos hb, jn_e, if_neg (by decide)]
        · have hd := x_hasRoad (hR.j hj4) hl hJ (d := 0) (by omega)
          have r0 := (hR.j hj4).rd hl (d := 0) (by omega)
          have r1 := (hR.j hj4).rd hl (d := 1) (by omega)
          refine ⟨mset (mset Mx (1 + 2 + 10 * j + 1) 0 a) (1 + 2 + 10 * j + 1) 1 b, ?_, XF.set (XF.set (XF.rf Mx) (by omega)) (by omega), ?_⟩
          · show fX9_setRoadGroups Mx (nI j) a b = _
            unfold fX9_setRoadGroups
            rw [x_found hR V hj4 hl, clpm_r, grd_T (jb hj4), show fX2_hasRoadGroup Mx (1 + 2 + 10 * j) 0 = _ from hd, clp_e]
            simp only [jn_e, bnd_e, b01_ite, tc0, tc1, grd_T (show inb 0 2 = true by decide), grd_T (show inb 1 2 = true by decide), r0, r1]
            by_cases c : 0 ≤ N 1 (ix j 5)
            · rw [if_pos c] at hv; rw [if_pos (decide_eq_true c), hv]
            · rw [if_neg c] at hv; rw [if_neg (by rw [decide_eq_false c]; decide), hv]
          · rw [ms_same, ms_same, ms_other _ _ _ (by omega)]
            have q1 := u_rd (d0 := 0) (by omega) hl a (hR.j hj4)
            have e2 : upd (N 1) (ix j 5) a 2 = N 1 2 := pk_un (by unfold ix; omega)
            have q2 := u_rd (d0 := 1) (by omega) (by rw [show ix j (5 + 0) = ix j 5 from rfl, e2]; exact hl) b q1
            exact RS_lift hR hj4 (fun o _ _ ho => by rw [ms_other _ _ _ (by omega), ms_other _ _ _ (by omega)]) (by rw [ms_other _ _ _ (by omega), ms_other _ _ _ (by omega)]) (by rw [ms_other _ _ _ (by omega), ms_other _ _ _ (by omega)]) (fun k hk => by rw [pk_un (by unfold ix at hk ⊢; omega), pk_un (by unfold ix at hk ⊢; omega)]) q2
      · refine Or.inl (bad_pure 1 0 0 (by decide) (fun _ => raise_1) rfl (by omega) (by rw [if_neg hb]; rfl) (fun Mx hR => ?_))
        show fX9_roadFault Mx (nI j) a b = some 1
        unfold fX9_roadFault
        rw [x_find hR V hj4 hl, clpn_s, grd_T (jb hj4), x_hg (hR.j hj4), clp_e, b01_ite, if_pos ha, x_hg (hR.j hj4), clp_e, b01_ite, if_neg hb, jn_e, if_pos rfl]
    · refine Or.inl (bad_pure 1 0 0 (by decide) (fun _ => raise_1) rfl (by omega) (by rw [if_neg ha]; rfl) (fun Mx hR => ?_))
      show fX9_roadFault Mx (nI j) a b = some 1
      unfold fX9_roadFault
      rw [x_find hR V hj4 hl, clpn_s, grd_T (jb hj4), x_hg (hR.j hj4), clp_e, b01_ite, if_neg ha, jn_e, if_pos rfl]
  · have hj' := Bool.not_eq_true _ |>.mp hj
    refine Or.inl (bad_pure 1 0 0 (by decide) (fun _ => raise_1) rfl (by omega) (by rw [m_ig_no hj', clp_e, jn_e, if_pos rfl]; rfl) (fun Mx hR => ?_))
    show fX9_roadFault Mx p a b = some 1
    unfold fX9_roadFault
    rw [x_find_no hR hj', clpn_n, jn_e, if_pos rfl]
theorem st_road {Mx Mm : Mem} (I : Inv Mx Mm) (p a b : Int32) : ∃ rx Mx' vm Mm', fX9_road Mx p a b = some (rx, Mx') ∧ fX10_road Mm p a b = some (vm, Mm') ∧ Agr [0] rx vm Mm' ∧ Inv Mx' Mm' := by
  have h := cmd_op I (fun N V => cmd_road (N := N) V p a b)
  rw [← liftF_cl (fun M => fX9_roadFault M p a b) Mx (fun x1 M2 => clpm M2 (fX9_raise M2 x1) (fun _ => cl (fX1_push M2 1) (fun _ M5 => clx (fX9_setRoadGroups M5 p a b) (fun x6 M7 => some (.inr x6, M7)))))] at h
  exact h
theorem rq_iff {A : Ar} {j g : Nat} (v : VJ A j) (hg : g < 6) : rq A j g = !decide (A (gx j g 2) = 0) := by
  have h := (v.2.2.2.2.2.2.1 g hg).2.2.1
  have h0 : Int32.toInt 0 = 0 := rfl
  have h1 : Int32.toInt 1 = 1 := rfl
  unfold rq
  by_cases c : A (gx j g 2) = 0
  · rw [c]; rfl
  · rw [decide_eq_false c, decide_eq_true]; rfl
    rw [ti_eq] at c ⊢
    have := h.1; have := h.2
    omega
theorem cmd_press {N : Mem} (V : Val (N 1)) (p g : Int32) : CmdOk N [0, 2] (liftF (fun M => fX9_pressFault M p g)) (fun M => fX9_makeRequest M p g) (fX10_presses N p g) := by
  unfold fX10_presses
  by_cases hj : inJ (N 1) p = true
  · obtain ⟨j, rfl, hj4, hl⟩ := inJ_ex V hj
    have hJ := V.2.1 j hj4 hl
    rw [m_ig hj4 hj, clp_e, b01_ite]
    by_cases hg : inG (N 1) j g = true
    · obtain ⟨g, rfl, hg6, hgl⟩ := inG_ex hJ hg
      obtain ⟨n, hn6, hn⟩ := hJ.sz
      rw [if_pos hg, m_g2 hj4 hg6, clp_e]
      by_cases hr : N 1 (gx j g 2) = 0
      · refine Or.inl (bad_pure 3 1 2 (by decide) (fun _ => raise_3) rfl (by omega) (by rw [if_pos hr]; rfl) (fun Mx hR => ?_))
        show fX9_pressFault Mx (nI j) (nI g) = some 3
        unfold fX9_pressFault
        rw [x_find hR V hj4 hl, clpn_s, grd_T (jb hj4), x_hg (hR.j hj4), clp_e, b01_ite, if_pos hg, x_byRequest (hR.j hj4) hg6, rq_iff hJ hg6, decide_eq_true hr, clp_e, jn_e, b01_ite]; rfl
      · have hF : ∀ Mx, RS Mx 1 (N 1) → liftF (fun M => fX9_pressFault M (nI j) (nI g)) Mx = some (0, Mx) := fun Mx hR => by
          refine liftF_e ?_
          show fX9_pressFault Mx (nI j) (nI g) = some 0
          unfold fX9_pressFault
          rw [x_find hR V hj4 hl, clpn_s, grd_T (jb hj4), x_hg (hR.j hj4), clp_e, b01_ite, if_pos hg, x_byRequest (hR.j hj4) hg6, rq_iff hJ hg6, decide_eq_false hr, clp_e, jn_e, b01_ite]; rfl
        rw [if_neg hr, m_g4 hj4 hg6, clp_e, jn_e]
        by_cases hw : 0 ≤ N 1 (gx j g 4)
        · rw [if_pos hw]
          dsimp only
          rw [m_waiting hj4 hn hn6, clp_e, bnd_e]
          refine Or.inr ⟨_, _, rfl, by rw [ms_at, if_pos ⟨rfl, rfl⟩], MFw.set0 (MFw.rf N) (by omega), by rw [ms_at, if_neg (by omega)], by rw [ms_other _ _ _ (by omega)]; exact V, fun Mx hR => ⟨hF Mx hR, Mx, ?_, XF.rf Mx, by rw [ms_other _ _ _ (by omega)]; exact hR⟩⟩
          show fX9_makeRequest Mx (nI j) (nI g) = _
          unfold fX9_makeRequest
          rw [x_found hR V hj4 hl, clpm_r, grd_T (jb hj4), x_waiting (hR.j hj4) hJ hg6 hgl, clp_e, jn_e, b01_ite, if_pos (show wt (N 1) j g = true from decide_eq_true hw)]
          dsimp only
          rw [x_waitingCount (hR.j hj4) hJ hn hn6, clp_e]
        · rw [if_neg hw]
          unfold fX10_groupAt
          rw [clp_e, grd_T ib3, show (6 : Int32) + 121 * nI j + 7 + 13 * nI g + 4 = nI (gx j g 4) from at_gx j g 4, grd_T (ib 490 (by unfold gx; omega) (by omega)), nI_clamp (by unfold gx; omega), tc3, bnd_e]
          obtain ⟨N1, hN1⟩ : ∃ z, z = mset N 1 (gx j g 4) (N 1 3) := ⟨_, rfl⟩
          rw [← hN1]
          have e1 : N1 1 = upd (N 1) (gx j g 4) (N 1 3) := by rw [hN1, ms_same]
          have en : N1 1 (ix j 2) = nI n := by rw [e1, pk_un (by unfold ix gx; omega), hn]
          have hv1 : VJ (N1 1) j := by
            rw [e1]
            exact V_gx hg6 hgl (by omega) hJ (by omega) (fun _ => ⟨by have := V.1.2.2.2.1.1; omega, Int.le_refl _⟩) (by omega) (by omega)
          dsimp only
          rw [m_waiting hj4 en hn6, clp_e, bnd_e]
          refine Or.inr ⟨_, _, rfl, by rw [ms_at, if_pos ⟨rfl, rfl⟩], MFw.set0 (by rw [hN1]; exact MFw.set1 (MFw.rf N)) (by omega), by rw [ms_at, if_neg (by omega), hN1, ms_other _ _ _ (by omega)], ?_, fun Mx hR => ⟨hF Mx hR, mset Mx (1 + 2 + 10 * j + 5) g (N 1 3), ?_, XF.set (XF.rf Mx) (by omega), ?_⟩⟩
          · rw [ms_other _ _ _ (by omega)]
            exact Val_lift V hj4 hl (fun k hk => by rw [e1]; exact pk_un (by unfold ix at hk; unfold gx; omega)) (by rw [e1]; exact pk_un (by unfold ix gx; omega)) hv1
          · have hRJ : RJ (mset Mx (1 + 2 + 10 * j + 5) g (N 1 3)) (1 + 2 + 10 * j) (N1 1) j := by
              rw [e1]; exact u_as hg6 hgl (N 1 3) (hR.j hj4)
            show fX9_makeRequest Mx (nI j) (nI g) = _
            unfold fX9_makeRequest
            rw [x_found hR V hj4 hl, clpm_r, grd_T (jb hj4), x_waiting (hR.j hj4) hJ hg6 hgl, clp_e, jn_e, b01_ite, if_neg (by unfold wt; rw [decide_eq_false hw]; decide), grd_T (inb_nI hg6 (by omega)), nI_clamp (by omega), bnd_e, hR.w2]
            dsimp only
            rw [x_waitingCount hRJ hv1 en hn6, clp_e]
          · rw [ms_other _ _ _ (by omega), e1]
            exact RS_lift hR hj4 (fun o _ _ ho => ms_other _ _ _ (by omega)) (by rw [ms_other _ _ _ (by omega)]) (by rw [ms_other _ _ _ (by omega)]) (fun k hk => pk_un (by unfold ix at hk; unfold gx; omega)) (u_as hg6 hgl (N 1 3) (hR.j hj4))
    · refine Or.inl (bad_pure 1 0 0 (by decide) (fun _ => raise_1) rfl (by omega) (by rw [if_neg hg]; rfl) (fun Mx hR => ?_))
      show fX9_pressFault Mx (nI j) g = some 1
      unfold fX9_pressFault
      rw [x_find hR V hj4 hl, clpn_s, grd_T (jb hj4), x_hg (hR.j hj4), clp_e, b01_ite, if_neg hg]
  · have hj' := Bool.not_eq_true _ |>.mp hj
    refine Or.inl (bad_pure 1 0 0 (by decide) (fun _ => raise_1) rfl (by omega) (by rw [m_ig_no hj', clp_e, if_pos rfl]; rfl) (fun Mx hR => ?_))
    show fX9_pressFault Mx p g = some 1
    unfold fX9_pressFault
    rw [x_find_no hR hj', clpn_n]
theorem st_press {Mx Mm : Mem} (I : Inv Mx Mm) (p g : Int32) : ∃ rx Mx' vm Mm', fX9_press Mx p g = some (rx, Mx') ∧ fX10_press Mm p g = some (vm, Mm') ∧ Agr [0, 2] rx vm Mm' ∧ Inv Mx' Mm' := by
  have h := cmd_op I (fun N V => cmd_press (N := N) V p g)
  rw [← liftF_cl (fun M => fX9_pressFault M p g) Mx (fun x1 M2 => clpm M2 (fX9_raise M2 x1) (fun _ => cl (fX1_push M2 1) (fun _ M5 => clx (fX9_makeRequest M5 p g) (fun x6 M7 => some (.inr x6, M7)))))] at h
  exact h
