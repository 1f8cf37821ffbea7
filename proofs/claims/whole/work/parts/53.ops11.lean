/-! call: conflict (the walk of both) -/
theorem m_conflict_back (M : Mem) (k : Mem → Option (Int32 × Mem)) : ∃ M1, lp (fX10_conflict_L1 k) FU (0, M) = k M1 ∧ Cpd M M1 1 4 490 := by
  have main := lp_inv (f := fX10_conflict_L1 k) (fun i (s : Int32 × Mem) => s.1 = nI i ∧ Cpd M s.2 1 4 i) (fun r => ∃ M1, r = k M1 ∧ Cpd M M1 1 4 490) 490 (by omega) (fun i hi s hs => Or.inl (by
      obtain ⟨x, K⟩ := s
      obtain ⟨rfl, hc⟩ := hs
      refine ⟨(nI (i + 1), mset K 1 i (K 4 i)), ⟨rfl, hc.step (by omega)⟩, fun k => ?_⟩
      simp only [fX10_conflict_L1]
      rw [if_neg (show ¬ (490 : Int32) ≤ nI i from nI_ge (b := 490) hi (by omega)), grd_T (inb_nI hi (by omega)), grd_T (inb_nI hi (by omega)), nI_clamp (by omega)]
      simp only [bnd_e, nI_1])) (fun s hs => by
      obtain ⟨x, K⟩ := s
      obtain ⟨rfl, hc⟩ := hs
      refine ⟨k K, ⟨K, rfl, hc⟩, fun k => ?_⟩
      simp only [fX10_conflict_L1]
      rw [if_pos (show (490 : Int32) ≤ nI 490 from nI_le (a := 490) (b := 490) (by omega) (by omega))]) (0, M) ⟨rfl, fun _ _ => rfl, fun k hk => absurd hk (by omega), fun _ _ => rfl⟩
  exact main
theorem cfw_nc {A : Ar} {j p a b : Nat} {x y : Int32} (h : cfw A j p a b x y = 0) (h1 : 0 < ln A j p a) (h2 : 0 < ln A j p b) : NC (A 0) (fs A j p a) (ln A j p a) (fs A j p b) (ln A j p b) x ∧ NC (A 0) (fs A j p b) (ln A j p b) (fs A j p a) (ln A j p a) y := by
  unfold cfw at h
  rw [show gr A j p a = true from decide_eq_true h1, show gr A j p b = true from decide_eq_true h2, Bool.and_self, if_pos rfl] at h
  have key : ∀ x y z : Bool, pick x y z = 0 → x = false ∧ y = false ∧ z = false := by decide
  obtain ⟨m1, m2, m3⟩ := key _ _ _ h
  unfold mt at m1
  rw [Bool.or_eq_false_iff, decide_eq_false_iff_not, decide_eq_false_iff_not] at m1
  rw [decide_eq_false_iff_not] at m2 m3
  obtain ⟨m4, m5⟩ := m1
  unfold NC
  simp only [ti_le, ti_lt] at m2 m3 m4 m5 ⊢
  omega
section O11
variable {Mx Mm : Mem}
theorem st_conflict (I : Inv Mx Mm) (p a b x y : Int32) : ∃ rx Mx' vm Mm', fX9_conflict Mx p a b x y = some (rx, Mx') ∧ fX10_conflict Mm p a b x y = some (vm, Mm') ∧ Agr [0, 1, 2, 3] rx vm Mm' ∧ Inv Mx' Mm' := by
  obtain ⟨N, a1, a2, a3, a4, a5, a6, a7⟩ := tries_ok I
  have IN : Inv Mx N := I.num a3 a4
  obtain ⟨hR, hV, hH, hT⟩ := id IN
  have hc := hV.c0
  have a5' : ∀ k, k < 490 → N 4 k = N 1 k := fun k hk => by rw [a3]; exact a5 k hk
  unfold fX9_conflict fX10_conflict
  rw [a1, cl_e]
  simp only [jn_e]
  by_cases hj : inJ (N 1) p = true
  · obtain ⟨j, rfl, hj4, hl⟩ := inJ_ex hV hj
    have hJ := hV.2.1 j hj4 hl
    obtain ⟨n, hn6, hn⟩ := hJ.sz
    rw [m_ig hj4 hj, clp_e, b01_ite, m_ig hj4 hj, clp_e, b01_ite]
    by_cases ha : inG (N 1) j a = true
    · rw [x_fw hR hV hj4 hl ha, clpm_r, grd_T (jb hj4), x_hg (hR.j hj4), clp_e, if_pos ha]
      by_cases hb : inG (N 1) j b = true
      · obtain ⟨a, rfl, ha6, hal⟩ := inG_ex hJ ha
        obtain ⟨b, rfl, hb6, hbl⟩ := inG_ex hJ hb
        have han := sz_lt hn hn6 ha6 hal
        have hbn := sz_lt hn hn6 hb6 hbl
        rw [if_pos hb, hb, need_T, clpm_r, f_isClearance, clp_e, b01_ite, f_isClearance, clp_e, b01_ite, f_in, clp_e, b01_ite, f_in, clp_e, b01_ite, x_planned (hR.j hj4) hl hJ, clp_e, b01_ite, m_of4 hj4, clp_e]
        by_cases hab : nI a = nI b
        · rw [if_pos hab, if_pos hab, need_2', clpm_l, m_raises, cl_e]
          exact ⟨_, _, _, _, rfl, rfl, fin_x IN 1 rfl _ _ rfl⟩
        · have hab' : a ≠ b := fun z => hab (by rw [z])
          rw [if_neg hab, if_neg hab]
          by_cases hx : (decide (0 ≤ x) && decide (x ≤ 20)) = true
          · rw [if_pos hx, if_pos hx]
            by_cases hy : (decide (0 ≤ y) && decide (y ≤ 20)) = true
            · rw [if_pos hy, if_pos hy, need_T', clpm_r]
              have bx := dec_ct hx
              have bby := dec_ct hy
              have z0 : Int32.toInt 0 = 0 := rfl
              have z20 : Int32.toInt 20 = 20 := rfl
              rw [z0, z20] at bx bby
              by_cases hch : N 1 (ix j 4) < 0
              · rw [if_neg (by rw [decide_eq_true_iff, ti_le]; rw [ti_lt] at hch; omega), if_pos hch]
                obtain ⟨K, hK⟩ : ∃ z, z = mset (mset N 1 (cx j a b) x) 1 (cx j b a) y := ⟨_, rfl⟩
                have k1 : K 1 = Pc (N 1) j a b x y := by rw [hK, ms_same, ms_same]; rfl
                have ko : ∀ r, r ≠ 1 → K r = N r := fun r hr => by rw [hK, ms_other _ _ _ hr, ms_other _ _ _ hr]
                have kM : MF N K := by rw [hK]; exact MF.set1 (MF.set1 (MF.rf N))
                have hx0 : (0 : Int32) ≤ x := by rw [ti_le]; exact bx.1
                have m0 : fX10_barred K (nI j) 0 (nI a) = some (cfw (N 1) j 0 a b x y) := m_barred_c hV hj4 hl (p := 0) (by omega) han hbn hab' hn hn6 hx0 k1
                have m1 : fX10_barred K (nI j) 1 (nI a) = some (cfw (N 1) j 1 a b x y) := m_barred_c hV hj4 hl (p := 1) (by omega) han hbn hab' hn hn6 hx0 k1
                rw [need_T', clpm_r, hR.w0, x_reasonC (hR.j hj4) ha6 hb6 x y hc, clp_e, m_clears x hj4 ha6 hb6, cl_e, m_clears y hj4 hb6 ha6, cl_e, ← hK, m0, clp_e, m1, clp_e]
                obtain ⟨w, hw⟩ : ∃ w, w = (if cfw (N 1) j 0 a b x y = 0 then cfw (N 1) j 1 a b x y else cfw (N 1) j 0 a b x y) := ⟨_, rfl⟩
                have e2 : ∀ F : Int32 → Option (Int32 × Mem), (if cfw (N 1) j 0 a b x y = 0 then F (cfw (N 1) j 1 a b x y) else F (cfw (N 1) j 0 a b x y)) = F w := fun F => by
                  rw [hw]; split <;> rfl
                have hwb : bt w 0 8 := by
                  rw [hw]; split
                  · exact cfw_bt _ _ _ _ _ _ _
                  · exact cfw_bt _ _ _ _ _ _ _
                rw [← hw, e2 (fun a21 => if a21 ≤ 0 then cl (fX10_keeps K) (fun _ M24 => clp (fX10_conflicts M24 (nI j)) (fun x25 => some (x25, M24))) else lp (fX10_conflict_L1 (fun a26 => cl (fX10_refuses a26 a21 4) (fun x28 M29 => some (x28, M29)))) FU (0, K))]
                by_cases hz : w = 0
                · have hz0 : cfw (N 1) j 0 a b x y = 0 := by
                    by_cases c : cfw (N 1) j 0 a b x y = 0
                    · exact c
                    · rw [if_neg c] at hw; exact absurd (hw.symm.trans hz) c
                  rw [if_pos hz0] at hw
                  have hz1 : cfw (N 1) j 1 a b x y = 0 := hw.symm.trans hz
                  have vj : VJ (K 1) j := by
                    rw [k1]
                    exact V_cl ha6 hb6 hab' hal hbl hJ ⟨by have := bx.1; omega, bx.2⟩ ⟨by have := bby.1; omega, bby.2⟩ ⟨fun _ => by rw [ti_le]; exact bby.1, fun _ => hx0⟩ (fun _ p hp l1 l2 => by
                      rcases (show p = 0 ∨ p = 1 by omega) with rfl | rfl
                      · exact cfw_nc hz0 l1 l2
                      · exact cfw_nc hz1 l1 l2)
                  obtain ⟨Mx1, K', b1, b2, b3, b4, b5, b6, b7⟩ := keep_ok (t := 1) (by omega) (hH.fr (XF.rf Mx) kM) (hT.fr (XF.rf Mx) kM) hR hV (fun k hk => by rw [ko 4 (by omega)]; exact a5' k hk)
                  have k1' : K' 1 = Pc (N 1) j a b x y := by rw [b3 1 (by omega) (by omega), k1]
                  have R1 : RS Mx1 1 (N 1) := RS_frame (fun o _ _ => b7 o (by omega)) hR
                  have en : Pc (N 1) j a b x y (ix j 2) = nI n := by rw [Pc_i ha6 hb6 (by omega)]; exact hn
                  have e2' : Pc (N 1) j a b x y 2 = N 1 2 := Pc_k (by unfold ix; omega) ha6 hb6
                  have u2 : upd (N 1) (cx j a b) x 2 = N 1 2 := pk_un (by unfold cx; omega)
                  have rj : RJ (mset (mset Mx1 (1 + 2 + 10 * j + 7) (6 * a + b) x) (1 + 2 + 10 * j + 7) (6 * b + a) y) (1 + 2 + 10 * j) (Pc (N 1) j a b x y) j := u_cl hb6 ha6 (by rw [u2]; exact hl) y (u_cl ha6 hb6 hl x (R1.j hj4))
                  have vj' : VJ (Pc (N 1) j a b x y) j := by rw [← k1]; exact vj
                  have mc : fX10_conflicts K' (nI j) = some (nI (cfs (Pc (N 1) j a b x y) j n)) := by
                    have := m_conflicts (M := K') hj4 (n := n) (by rw [k1']; exact en) hn6
                    rw [k1'] at this; exact this
                  unfold fX9_faultOfReason
                  rw [hz, if_pos rfl, cl_e, raise_0, clpm_r, b1, cl_e, x_setClear ha6 hb6, cl_e, x_conflictCount rj (by rw [e2']; exact hl) vj' en hn6, clp_e, if_pos (by decide), b2, cl_e, mc, clp_e]
                  refine ⟨_, _, _, _, rfl, rfl, ⟨?_, rfl⟩, ?_, ?_, b5.fr (XF.set (XF.set (XF.rf Mx1) (by omega)) (by omega)) (MF.rf K'), b6.fr (XF.set (XF.set (XF.rf Mx1) (by omega)) (by omega)) (MF.rf K')⟩
                  · rw [b4 0 (by omega), ko 0 (by omega), a2]
                  · rw [k1']
                    exact RS_lift R1 hj4 (fun o _ _ ho => by rw [ms_other _ _ _ (by omega), ms_other _ _ _ (by omega)]) (by rw [ms_other _ _ _ (by omega), ms_other _ _ _ (by omega)]) (by rw [ms_other _ _ _ (by omega), ms_other _ _ _ (by omega)]) (fun k hk => Pc_k (by unfold ix at hk ⊢; omega) ha6 hb6) rj
                  · rw [k1']
                    exact Val_lift hV hj4 hl (fun k hk => Pc_k (by unfold ix at hk ⊢; omega) ha6 hb6) (Pc_i ha6 hb6 (by omega)) vj'
                · have hw0 : ¬ w ≤ 0 := by
                    intro z
                    rw [ti_le, z0] at z
                    exact hz (by rw [ti_eq, z0]; have := hwb.1; omega)
                  obtain ⟨K', c1, c2⟩ := m_conflict_back K (fun a26 => cl (fX10_refuses a26 w 4) (fun x28 M29 => some (x28, M29)))
                  unfold fX9_faultOfReason
                  rw [if_neg hz, bnd_e, cl_e, raise_4, clpm_l, if_neg hw0, c1, m_refuses, cl_e]
                  obtain ⟨q1, q2, q3⟩ := c2
                  have e1 : ∀ k, k < 490 → K' 1 k = N 1 k := fun k hk => by rw [q2 k hk, ko 4 (by omega)]; exact a5' k hk
                  have eo : ∀ r, r ≠ 0 → r ≠ 1 → mset (mset K' 0 11 w) 0 0 4 r = N r := fun r h0 h1 => by rw [ms_other _ _ _ h0, ms_other _ _ _ h0, q1 r h1, ko r h1]
                  have e0 : ∀ k, k ≠ 0 → k ≠ 11 → mset (mset K' 0 11 w) 0 0 4 0 k = N 0 k := fun k h0 h1 => by rw [ms_at, if_neg (by omega), ms_at, if_neg (by omega), q1 0 (by omega), ko 0 (by omega)]
                  obtain ⟨⟨s1, s2⟩, ⟨l, t1, t2, t3, t4⟩, ⟨r, u1, u2, u3, u4⟩, w1, w2, w3, w4⟩ := hT
                  refine ⟨_, _, _, _, rfl, rfl, ⟨3, rfl, by rw [ms_at, if_pos ⟨rfl, rfl⟩]; rfl⟩, ?_, ?_, ?_, ?_, ?_, ?_, ?_⟩
                  · rw [ms_other _ _ _ (by omega), ms_other _ _ _ (by omega)]; exact RS_cong e1 (RS_frame (fun o _ _ => ms_other _ _ _ (by omega)) hR)
                  · rw [ms_other _ _ _ (by omega), ms_other _ _ _ (by omega)]; exact Val_cong e1 hV
                  · exact HR_frame (fun o _ _ => ms_other _ _ _ (by omega)) (eo 2 (by omega) (by omega)) (e0 3 (by omega) (by omega)) hH
                  · refine ⟨by rw [ms_at, if_neg (by omega), e0 5 (by omega) (by omega)]; exact s1, ?_⟩
                    rw [e0 5 (by omega) (by omega), eo 3 (by omega) (by omega)]
                    rcases s2 with s2 | ⟨s2, s3, s4⟩
                    · exact Or.inl s2
                    · exact Or.inr ⟨s2, RS_frame (fun o _ _ => ms_other _ _ _ (by omega)) s3, s4⟩
                  · exact ⟨l, t1, by rw [ms_other _ _ _ (by omega)]; exact t2, by rw [e0 8 (by omega) (by omega)]; exact t3, fun k hk => by rw [ms_other _ _ _ (by omega), eo 5 (by omega) (by omega)]; exact t4 k hk⟩
                  · exact ⟨r, u1, by rw [ms_other _ _ _ (by omega)]; exact u2, by rw [e0 13 (by omega) (by omega)]; exact u3, fun k hk => by rw [ms_other _ _ _ (by omega), eo 6 (by omega) (by omega)]; exact u4 k hk⟩
                  · refine ⟨by rw [ms_at, if_pos ⟨rfl, rfl⟩, ms_at, if_neg (by omega), ms_at, if_pos ⟨rfl, rfl⟩], by rw [ms_at, if_neg (by omega), e0 10 (by omega) (by omega)]; exact w2, ?_, ?_⟩
                    · rw [ms_at, if_neg (by omega), ms_at, if_pos ⟨rfl, rfl⟩]; exact hwb
                    · rw [e0 10 (by omega) (by omega)]; exact w4
              · rw [if_pos (by rw [decide_eq_true_iff, ti_le]; rw [ti_lt] at hch; omega), if_neg hch]
                rw [need_3', clpm_l, m_raises, cl_e]
                exact ⟨_, _, _, _, rfl, rfl, fin_x IN 2 rfl _ _ rfl⟩
            · rw [if_neg hy, if_neg hy, need_2', clpm_l, m_raises, cl_e]
              exact ⟨_, _, _, _, rfl, rfl, fin_x IN 1 rfl _ _ rfl⟩
          · rw [if_neg hx, if_neg hx, need_2', clpm_l, m_raises, cl_e]
            exact ⟨_, _, _, _, rfl, rfl, fin_x IN 1 rfl _ _ rfl⟩
      · rw [if_neg hb, Bool.not_eq_true _ |>.mp hb, need_1, clpm_l, m_raises, cl_e]
        exact ⟨_, _, _, _, rfl, rfl, fin_x IN 0 rfl _ _ rfl⟩
    · rw [if_neg ha, x_fw_nog hR hV hj4 hl (Bool.not_eq_true _ |>.mp ha), clpm_l, m_raises, cl_e]
      exact ⟨_, _, _, _, rfl, rfl, fin_x IN 0 rfl _ _ rfl⟩
  · have hj' := Bool.not_eq_true _ |>.mp hj
    rw [x_fw_noj hR hj', clpm_l, m_ig_no hj', clp_e, if_pos rfl, m_raises, cl_e]
    exact ⟨_, _, _, _, rfl, rfl, fin_x IN 0 rfl _ _ rfl⟩
end O11
