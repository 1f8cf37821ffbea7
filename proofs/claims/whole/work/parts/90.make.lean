/-! call: make : the call -/
theorem st_make {Mx Mm : Mem} (I : Inv Mx Mm) (p q : Int32) : ∃ rx Mx' vm Mm', fX9_make Mx p q = some (rx, Mx') ∧ fX10_make Mm p q = some (vm, Mm') ∧ Agr [0, 2, 3] rx vm Mm' ∧ Inv Mx' Mm' := by
  obtain ⟨N, a1, a2, a3, a4, a5, a6, a7⟩ := tries_ok I
  have IN : Inv Mx N := I.num a3 a4
  obtain ⟨hR, hV, hH, hT⟩ := id IN
  have hc0 := hV.c0
  have a5' : ∀ k, k < 490 → N 4 k = N 1 k := fun k hk => by rw [a3]; exact a5 k hk
  unfold fX9_make fX10_make
  rw [a1, cl_e]
  simp only [jn_e]
  by_cases hj : inJ (N 1) p = true
  · obtain ⟨j, rfl, hj4, hl⟩ := inJ_ex hV hj
    have hJ := hV.2.1 j hj4 hl
    obtain ⟨n, hn6, hn⟩ := hJ.sz
    have hJx := hR.j hj4
    rw [x_found hR hV hj4 hl, clpm_r, grd_T (jb hj4), f_isPlan, clp_e, m_ip hj, clp_e, b01_ite]
    by_cases hq : (decide (0 ≤ q) && decide (q ≤ 1)) = true
    · obtain ⟨q, rfl, hq2⟩ := plan_ex hq
      rw [if_pos hq, hq, need_T, clpm_r, m_of2 hj4, clp_e, m_of4 hj4, clp_e, hn, hJx.w (by omega), hn, x_planned hJx hl hJ, clp_e, b01_ite]
      have bad2 : ∀ e : Inv Mx N, ∃ rx Mx' vm Mm', clpm Mx (fX9_need Mx 0 3) (fun u6 => cl (fX3_layOut Mx (1 + 2 + 10 * j) (Mx 1 0)) (fun x7 M8 => cl (fX9_faultOfReason M8 x7) (fun x9 M10 => clpm M10 (fX9_raise M10 x9) (fun u11 => cl (fX1_push M10 1) (fun u12 M13 => cl (fX3_giveGreens M13 (1 + 2 + 10 * j) (nI q)) (fun u14 M15 => some (.inr (M15 465 0), M15))))))) = some (rx, Mx') ∧ cl (fX10_raises N 2) (fun x7 M8 => some (x7, M8)) = some (vm, Mm') ∧ Agr [0, 2, 3] rx vm Mm' ∧ Inv Mx' Mm' := fun e => by
        rw [need_3', clpm_l, m_raises, cl_e]
        exact ⟨_, _, _, _, rfl, rfl, fin_x e 1 rfl _ _ rfl⟩
      by_cases n0 : n = 0
      · subst n0
        rw [if_pos (show nI 0 ≤ 0 by decide), if_pos (show nI 0 = 0 from rfl)]
        exact bad2 IN
      · rw [if_neg (nI_nle (by omega) (by omega)), if_neg (nI_ne0 (by omega) (by omega))]
        by_cases hch : N 1 (ix j 4) < 0
        · rw [if_neg (show ¬ decide (0 ≤ N 1 (ix j 4)) = true by rw [decide_eq_true_iff, ti_le]; rw [ti_lt] at hch; omega), if_pos hch, need_T', clpm_r]
          obtain ⟨c, hc, c1, c2⟩ := bt_nI (x := N 1 0) (hi := 120) ⟨by omega, hV.1.1.2⟩
          have c30 : 30 ≤ c := by have := hV.1.1.1; rw [hc, nI_toInt c2] at this; omega
          obtain ⟨L, w, hm⟩ := min_ex (N 1) j (n := n) (by omega)
          have lo : LO (N 1) j n L c w := ⟨hJ, hn, by omega, hn6, hc, c30, by omega, hm⟩
          obtain ⟨k1, k2, k3, k4, k5, k6⟩ := lo.col
          obtain ⟨b1, b2⟩ := lo.b200
          obtain ⟨M10, e1, e2, e3⟩ := x_layOut hJx hl (by omega) lo
          rw [hR.w0, hc, e1, cl_e]
          -- the reference
          obtain ⟨K1, f1, f2, f3⟩ := m_phases hj4 rfl hJ hn hn6 hm
          have K11 : K1 1 = N 1 := f2 1 (by omega)
          rw [f1, cl_e, grd_T ib0, tc0, K11, bnd_e, m_ml10 (A := N 1) hj4 K11 hn6 f3 k1 k3 ⟨k4, k5⟩]
          dsimp only
          obtain ⟨K2, hK2⟩ : ∃ z, z = KKm K1 (N 1) j w n L L := ⟨_, rfl⟩
          rw [← hK2]
          have g2 : ∀ o, o ≠ 8 → o ≠ 9 → o ≠ 10 → K2 o = N o := fun o o8 o9 o10 => by rw [hK2, KK_o K1 o9 o10 L]; exact f2 o o8
          have g9 : ∀ r, r < L → K2 9 r = nI (lgn (N 1) j w n r) := fun r hr => by rw [hK2, (KK_9 K1 L hr).1]; exact (lg_e hJ hn6 r).1
          have g10 : ∀ r, r < L → K2 10 r = nI (psn (N 1) j w n L r) := fun r hr => by rw [hK2, (KK_9 K1 L hr).2]; exact (ps_e hJ hn6 r).1
          have hlf := lfo_e (L := L) (w := w) hJ hn6 hc (by omega) L k5
          have z0 : Int32.toInt 0 = 0 := rfl
          have M10o : ∀ o, o < 465 ∨ 472 ≤ o → M10 o = Mx o := fun o ho => e2 o (by omega)
          by_cases hs : stt (lgn (N 1) j w n) (psn (N 1) j w n L) L ≤ c
          · obtain ⟨h465, h466, h467, h468⟩ := e3 hs
            have mk := lo.mk hs
            have el : lfo (N 1) j w n L L = nI (lef (N 1) j n L c w) := by
              rw [ti_eq, hlf, nI_toInt (by omega)]
              unfold lef; omega
            rw [if_pos hs, el, if_pos (nI_pos' (by omega))]
            have es : slm K2 9 L (lgn (N 1) j w n) = K2 := slm_self g9
            have sp := m_spread (N := K2) (c := c) (L := L) (left := lef (N 1) j n L c w) (l := lgn (N 1) j w n) (by rw [g2 1 (by omega) (by omega) (by omega)]; exact hc) (by omega) (by omega) k5 b1 b2
            rw [es] at sp
            rw [sp]
            obtain ⟨K3, hK3⟩ : ∃ z, z = slm K2 9 L (lfn (N 1) j n L c w) := ⟨_, rfl⟩
            rw [show (rnd (c - 5) L (lgn (N 1) j w n, lef (N 1) j n L c w) (lef (N 1) j n L c w)).1 = lfn (N 1) j n L c w from rfl, ← hK3]
            have g3 : ∀ o, o ≠ 8 → o ≠ 9 → o ≠ 10 → K3 o = N o := fun o o8 o9 o10 => by rw [hK3, slm_o _ _ o9]; exact g2 o o8 o9 o10
            have O3 : OA K3 8 w := fun k hk => by rw [hK3, slm_o _ _ (by omega), hK2, KK_o K1 (by omega) (by omega) L]; exact f3 k hk
            rw [m_ml5 (A := N 1) (l := lfn (N 1) j n L c w) (ps := psn (N 1) j w n L) hj4 hn6 hq2 O3 k1 k3 k5 (g3 1 (by omega) (by omega) (by omega)) (fun r hr => by rw [hK3]; exact slm_at _ _ _ hr) (fun r hr => by rw [hK3, slm_o _ _ (by omega)]; exact g10 r hr)]
            rw [show pC (N 1) j q n w (lfn (N 1) j n L c w) (psn (N 1) j w n L) L = pD (N 1) j q w (lfn (N 1) j n L c w) (psn (N 1) j w n L) n from funext (fun k => pCD hq2 k2 k)]
            obtain ⟨B, hB⟩ : ∃ z, z = pD (N 1) j q w (lfn (N 1) j n L c w) (psn (N 1) j w n L) n := ⟨_, rfl⟩
            rw [← hB]
            have B0 : B 0 = N 1 0 := by rw [hB]; exact pD_o (fun a _ => ⟨by unfold gx; omega, by unfold gx; omega⟩)
            have Bk : ∀ a b, a < 6 → b < 6 → kl B j a b = kl (N 1) j a b := fun a b ha hb => by unfold kl; rw [hB]; exact pD_o (fun a _ => ⟨by unfold cx gx; omega, by unfold cx gx; omega⟩)
            have Bf : ∀ a, a < n → fs B j q a = nI (stt (lfn (N 1) j n L c w) (psn (N 1) j w n L) (phs w a)) ∧ ln B j q a = nI (lfn (N 1) j n L c w (phs w a)) := fun a ha => by rw [hB]; exact pD_at hq2 ha
            obtain ⟨Kf, hKf⟩ : ∃ z, z = m1 K3 B := ⟨_, rfl⟩
            rw [← hKf]
            have Kf1 : Kf 1 = B := by rw [hKf]; exact m1_1 _ _
            have Kfo : ∀ o, o ≠ 1 → o ≠ 8 → o ≠ 9 → o ≠ 10 → Kf o = N o := fun o o1 o8 o9 o10 => by rw [hKf, m1_o _ _ o1]; exact g3 o o8 o9 o10
            have hlb : ∀ a, a < n → 1 ≤ lfn (N 1) j n L c w (phs w a) ∧ stt (lfn (N 1) j n L c w) (psn (N 1) j w n L) (phs w a) + lfn (N 1) j n L c w (phs w a) ≤ c ∧ stt (lfn (N 1) j n L c w) (psn (N 1) j w n L) (phs w a) < c := fun a ha => by
              obtain ⟨x1, x2⟩ := mk.2.2.2.2.1 a ha
              obtain ⟨x3, x4⟩ := stt_lt mk.2.2.2.1 x1 x2
              exact ⟨x2, x3, x4⟩
            have bd : BD (Kf 1) j q n := by
              rw [Kf1]
              refine ⟨by rw [B0]; exact hV.1.1, fun o ho => ?_⟩
              obtain ⟨x1, x2⟩ := Bf o ho
              obtain ⟨x3, x4, x5⟩ := hlb o ho
              rw [x1, x2, B0, hc]
              exact ⟨⟨by rw [nI_toInt (by omega)]; omega, by rw [nI_toInt (by omega), nI_toInt (by omega)]; omega⟩, ⟨by rw [nI_toInt (by omega)]; omega, by rw [nI_toInt (by omega), nI_toInt (by omega)]; omega⟩⟩
            rw [m_check hj4 hq2 hn6 bd (fun g hg => by
              rw [Kf1, (Bf g hg).2]
              obtain ⟨x3, x4, x5⟩ := hlb g hg
              rw [nI_toInt (by omega)]; omega), Kf1, prs_ic hJ hn6 mk B0 Bk Bf]
            by_cases hic : icA (N 1) j w (lfn (N 1) j n L c w) (psn (N 1) j w n L) n = true
            · rw [if_pos hic, if_pos hic]
              have vj : VJ B j := by rw [hB]; exact VJ_make hJ hn hn6 hq2 mk hic
              have I10 : Inv M10 N := Inv_ph IN M10o rfl (MF.rf N)
              have kM : MF N Kf := ⟨fun k _ => by rw [Kfo 0 (by omega) (by omega) (by omega) (by omega)], Kfo 2 (by omega) (by omega) (by omega) (by omega), Kfo 3 (by omega) (by omega) (by omega) (by omega), Kfo 5 (by omega) (by omega) (by omega) (by omega), Kfo 6 (by omega) (by omega) (by omega) (by omega)⟩
              obtain ⟨Mx1, K', q1, q2, q3, q4, q5, q6, q7⟩ := keep_ok (t := 1) (by omega) (I10.2.2.1.fr (XF.rf M10) kM) (I10.2.2.2.fr (XF.rf M10) kM) I10.1 hV (fun k hk => by rw [Kfo 4 (by omega) (by omega) (by omega) (by omega)]; exact a5' k hk)
              have R1 : RS Mx1 1 (N 1) := RS_frame (fun o _ _ => q7 o (by omega)) I10.1
              obtain ⟨Mx2, u1, u2, u3, u4, u5⟩ := x_give (M := Mx1) (J := 1 + 2 + 10 * j) (q := q) (l := lfn (N 1) j n L c w) (ps := psn (N 1) j w n L) (R1.j hj4) hn hn6 (by omega) hq2 (fun k hk => by rw [q7 466 (by omega)]; exact h466 k hk) k1 k2 k5 (fun r hr => by rw [q7 467 (by omega)]; exact h467 r hr) (fun r hr => by rw [q7 468 (by omega)]; exact h468 r hr)
              rw [← hB] at u2
              have k1' : K' 1 = B := (q3 1 (by omega) (by omega)).trans Kf1
              have Bfar : ∀ k, (k < ix j 0 ∨ ix j 121 ≤ k) → B k = N 1 k := fun k hk => by rw [hB]; exact pD_o (fun a ha => ⟨by unfold ix at hk; unfold gx; omega, by unfold ix at hk; unfold gx; omega⟩)
              have Bi0 : B (ix j 0) = N 1 (ix j 0) := by rw [hB]; exact pD_o (fun a ha => ⟨by unfold ix gx; omega, by unfold ix gx; omega⟩)
              unfold fX9_faultOfReason
              rw [if_pos rfl, cl_e, raise_0, clpm_r, q1, cl_e, u1, cl_e, u3 465 (by omega), q7 465 (by omega), h465, q2, cl_e]
              have xf : XF Mx1 Mx2 := fun o ho => u3 o (by omega)
              refine ⟨_, _, _, _, rfl, rfl, ⟨by rw [q4 0 (by omega), Kfo 0 (by omega) (by omega) (by omega) (by omega), a2], rfl⟩, ?_, ?_, q5.fr xf (MF.rf K'), q6.fr xf (MF.rf K')⟩
              · rw [k1']
                exact RS_lift R1 hj4 (fun o _ _ ho => u3 o (by omega)) u4 u5 Bfar u2
              · rw [k1']
                exact Val_lift hV hj4 hl Bfar Bi0 vj
            · rw [if_neg hic, if_neg hic]
              obtain ⟨K', c1', c2'⟩ := m_make_back Kf (fun a25 => cl (fX10_refuses a25 7 3) (fun x27 M28 => some (x27, M28)))
              obtain ⟨y1, y2, y3⟩ := c2'
              unfold fX9_faultOfReason
              rw [if_neg (by decide), bnd_e, cl_e, raise_4, clpm_l, c1', m_refuses, cl_e]
              refine ⟨_, _, _, _, rfl, rfl, ⟨2, rfl, by rw [ms_at, if_pos ⟨rfl, rfl⟩]; rfl⟩, fin_ref IN (fun o o0 ho => (ms_other _ _ _ o0).trans (M10o o ho)) (fun k hk => by rw [ms_at, if_neg (fun z => hk z.2), M10o 0 (by omega)]) (by rw [ms_at, if_pos ⟨rfl, rfl⟩]) (by unfold bt; decide) (fun o ho => (y1 o (by omega)).trans (Kfo o (by omega) (by omega) (by omega) (by omega))) (fun k => by rw [y1 0 (by omega), Kfo 0 (by omega) (by omega) (by omega) (by omega)]) (fun k hk => by rw [y2 k hk, Kfo 4 (by omega) (by omega) (by omega) (by omega)]; exact a5' k hk)⟩
          · rw [if_neg hs, if_neg (by rw [ti_le, z0, hlf]; omega)]
            unfold fX9_faultOfReason
            rw [if_neg (by decide), bnd_e, cl_e, raise_4, clpm_l, m_refuses, cl_e]
            refine ⟨_, _, _, _, rfl, rfl, ⟨2, rfl, by rw [ms_at, if_pos ⟨rfl, rfl⟩]; rfl⟩, fin_ref IN (fun o o0 ho => (ms_other _ _ _ o0).trans (M10o o ho)) (fun k hk => by rw [ms_at, if_neg (fun z => hk z.2), M10o 0 (by omega)]) (by rw [ms_at, if_pos ⟨rfl, rfl⟩]) (by unfold bt; decide) (fun o ho => g2 o (by omega) (by omega) (by omega)) (fun k => by rw [g2 0 (by omega) (by omega) (by omega)]) (fun k hk => by rw [g2 1 (by omega) (by omega) (by omega)])⟩
        · rw [if_pos (show decide (0 ≤ N 1 (ix j 4)) = true by rw [decide_eq_true_iff, ti_le]; rw [ti_lt] at hch; omega), if_neg hch]
          exact bad2 IN
    · rw [if_neg hq, Bool.not_eq_true _ |>.mp hq, need_1, clpm_l, m_raises, cl_e]
      exact ⟨_, _, _, _, rfl, rfl, fin_x IN 0 rfl _ _ rfl⟩
  · have hj' := Bool.not_eq_true _ |>.mp hj
    rw [x_found_no hR hj', clpm_l, m_ip_no hj', clp_e, if_pos rfl, m_raises, cl_e]
    exact ⟨_, _, _, _, rfl, rfl, fin_x IN 0 rfl _ _ rfl⟩
