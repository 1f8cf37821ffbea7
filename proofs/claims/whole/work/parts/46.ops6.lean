/-! calls: groupTold, cycle, told, save, restore, undo -/
theorem RS_hd {M : Mem} {t : Nat} {A : Ar} {k i : Nat} (hk : (k = 0 ∧ i = 0) ∨ (k = 1 ∧ i = 1) ∨ (k = 2 ∧ i = 3)) (v : Int32) (h : RS M t A) : RS (mset M t k v) t (upd A i v) := by
  obtain ⟨i1, i2, i3, i4, i5, i6, i7, i8⟩ := h
  have hu : ∀ q, q ≠ i → upd A i v q = A q := fun q hq => pk_un hq
  have e2 : upd A i v 2 = A 2 := hu 2 (by omega)
  refine ⟨?_, ?_, by rw [ms_at, if_neg (by omega), e2]; exact i3, ?_, fun j hj => ?_, ?_, ?_, fun j hj hl => ?_⟩
  · by_cases c : k = 0
    · have : i = 0 := by omega
      subst c; subst this; rw [ms_at, if_pos ⟨rfl, rfl⟩, up_at, if_pos rfl]
    · rw [ms_at, if_neg (by omega), hu 0 (by omega)]; exact i1
  · by_cases c : k = 1
    · have : i = 1 := by omega
      subst c; subst this; rw [ms_at, if_pos ⟨rfl, rfl⟩, up_at, if_pos rfl]
    · rw [ms_at, if_neg (by omega), hu 1 (by omega)]; exact i2
  · by_cases c : k = 2
    · have : i = 3 := by omega
      subst c; subst this; rw [ms_at, if_pos ⟨rfl, rfl⟩, up_at, if_pos rfl]
    · rw [ms_at, if_neg (by omega), hu 3 (by omega)]; exact i4
  · refine RJ_cong e2 (fun q hq => hu _ (by unfold ix; omega)) (RJ_copy (fun c q hc hq => ?_) (i5 j hj))
    rw [ms_other _ _ _ (by omega)]
  · simp only [ms_at]
    rw [if_neg (by omega), if_neg (by omega), if_neg (by omega), if_neg (by omega), hu 4 (by omega)]; exact i6
  · simp only [ms_at]
    rw [if_neg (by omega), if_neg (by omega), if_neg (by omega), if_neg (by omega), hu 5 (by omega)]; exact i7
  · rw [e2] at hl
    rw [ms_at, if_neg (by omega), ms_at, if_neg (by omega)]; exact i8 j hj hl
theorem V_cyc {A : Ar} (V : Val A) {p : Int32} (hp : bt p 30 120) {n : Nat} (hn4 : n ≤ 4) (hn : A 2 = nI n) (ht : al (tk A p) n = true) : Val (upd A 0 p) := by
  obtain ⟨v0, v1, v2, v3⟩ := V
  have hu : ∀ q, q ≠ 0 → upd A 0 p q = A q := fun q hq => pk_un hq
  have e0 : upd A 0 p 0 = p := by rw [up_at, if_pos rfl]
  refine ⟨⟨by rw [e0]; exact hp, by rw [hu 1 (by omega)]; exact v0.2.1, by rw [hu 2 (by omega)]; exact v0.2.2.1, by rw [hu 3 (by omega)]; exact v0.2.2.2.1, by rw [hu 3 (by omega), hu 4 (by omega)]; exact v0.2.2.2.2⟩, fun j hj hl => ?_, fun j hj hl k hk => ?_, fun j hj hl => ?_⟩
  · rw [hu 2 (by omega)] at hl
    have hJ := v1 j hj hl
    have hjn : j < n := by rw [hn] at hl; exact (nI_ltI (by omega) (by omega)).mp hl
    have t := al_T.mp ht j hjn
    obtain ⟨q, hq6, hq⟩ := hJ.sz
    have hcl : (A (ix j 2)).toNatClampNeg = q := by rw [hq, nI_clamp (by omega)]
    unfold tk at t
    rw [hcl, Bool.and_eq_true, Bool.and_eq_true, decide_eq_true_iff, decide_eq_true_iff] at t
    obtain ⟨t1, t2, t3⟩ := t
    have hz : ∀ g r, g < 6 → r < 2 → ln A j r g = 0 := fun g r hg hr => by
      by_cases c : g < q
      · have hb := al_T.mp t1 g c
        rw [Bool.and_eq_true, ln0 hJ (by omega) hg, ln0 hJ (by omega) hg, Bool.not_not, Bool.not_not, decide_eq_true_iff, decide_eq_true_iff] at hb
        rcases (show r = 0 ∨ r = 1 by omega) with rfl | rfl
        · exact hb.1
        · exact hb.2
      · exact (hJ.2.2.2.2.2.2.1 g hg).2.2.2.2.2.2.2.2.2 (by rw [hq]; exact nI_nlt (by omega) (by omega)) _ (by omega)
    have z0 : Int32.toInt 0 = 0 := rfl
    obtain ⟨w1, w2, w3, w4, w5, w6, w7, w8⟩ := hJ
    have ei : ∀ k, upd A 0 p (ix j k) = A (ix j k) := fun k => hu _ (by unfold ix; omega)
    have eg : ∀ g k, upd A 0 p (gx j g k) = A (gx j g k) := fun g k => hu _ (by unfold gx; omega)
    refine ⟨by rw [ei]; exact w1, ⟨by rw [ei]; exact w2.1, by rw [ei, e0]; rw [ti_lt] at t2; omega⟩, by rw [ei]; exact w3, by rw [ei]; exact w4, by rw [ei]; exact w5, fun d hd => by rw [ei, ei]; exact w6 d hd, fun g hg => ?_, fun a ha b hb => ?_⟩
    · obtain ⟨g0, g1, g2, g3, g4, g5, g6, g7, g8, g9⟩ := w7 g hg
      refine ⟨by rw [eg]; exact g0, by rw [eg]; exact g1, by rw [eg]; exact g2, by rw [eg, hu 3 (by omega)]; exact g3, by rw [eg, hu 3 (by omega)]; exact g4, by rw [eg]; exact g5, fun r hr => by rw [eg]; exact g6 r hr, fun r hr => ?_, fun hl => by rw [eg]; exact g8 (by rw [← ei]; exact hl), fun hl w hw => by rw [eg]; exact g9 (by rw [← ei]; exact hl) w hw⟩
      have l0 := hz g r hg hr
      have f0 := (g7 r hr).2.2 l0
      unfold ln at l0
      unfold fs at f0
      unfold fs ln bt
      rw [eg, eg, l0, f0, e0, z0]
      have := hp.1
      exact ⟨by omega, by omega, fun _ => rfl⟩
    · obtain ⟨c1, c2, c3, c4⟩ := w8 a ha b hb
      have ec : ∀ a b, kl (upd A 0 p) j a b = kl A j a b := fun a b => hu _ (by unfold cx; omega)
      refine ⟨by rw [ec]; exact c1, by rw [ec, ec]; exact c2, by rw [ec, ei]; exact c3, fun _ r hr l1 => ?_⟩
      have l0 := hz a r ha hr
      unfold ln at l0 l1
      rw [eg, l0] at l1
      exact absurd l1 (by decide)
  · rw [hu 2 (by omega)] at hl
    rw [hu _ (by unfold ix; omega)]; exact v2 j hj hl k hk
  · rw [hu 2 (by omega)] at hl
    rw [hu _ (by unfold ix; omega), hu _ (by unfold ix; omega)]; exact v3 j hj hl
section O6
variable {Mx Mm : Mem}
theorem st_cycle (I : Inv Mx Mm) (p : Int32) : ∃ rx Mx' vm Mm', fX9_cycle Mx p = some (rx, Mx') ∧ fX10_cycle Mm p = some (vm, Mm') ∧ Agr [1, 2] rx vm Mm' ∧ Inv Mx' Mm' := by
  have I0 := I.th 0
  obtain ⟨N, hN⟩ : ∃ z, z = mset Mm 0 0 0 := ⟨_, rfl⟩
  rw [← hN] at I0
  obtain ⟨hR, hV, hH, hT⟩ := id I0
  have h00 : N 0 0 = 0 := by rw [hN, ms_at, if_pos ⟨rfl, rfl⟩]
  unfold fX9_cycle fX10_cycle
  simp only [bnd_e, ← hN, jn_e]
  rw [f_isWithin, clp_e, f_in, clp_e, b01_ite]
  by_cases hp : (decide (30 ≤ p) && decide (p ≤ 120)) = true
  · obtain ⟨n, hn4, hn, hx⟩ := x_canTake hR hV p
    rw [if_pos hp, hp, need_T, clpm_r, hx, clp_e, m_tk hV p hn4 hn]
    by_cases ht : al (tk (N 1) p) n = true
    · obtain ⟨Mx1, K, a1, a2, a3, a4, a5, a6, a7, a8⟩ := changes_ok I0
      have k1 : K 1 = N 1 := a3 1 (by omega) (by omega) (by omega)
      rw [if_pos ht, ht, need_T, clpm_r, a1, cl_e, a2, cl_e, grd_T ib0, grd_T ib0, tc0]
      refine ⟨_, _, _, _, rfl, rfl, ⟨?_, ?_⟩, Inv.of ?_ ?_ (XF.set (XF.rf Mx1) (by omega)) (MF.set1 (MF.rf K)) a5 a6⟩
      · rw [ms_other _ _ _ (by omega), a4 0 (by omega), h00]
      · rw [a7.w0, k1]
      · rw [ms_same, k1]; exact RS_hd (by omega) p a7
      · rw [ms_same, k1]; exact V_cyc hV (dec_ct hp) hn4 hn ht
    · rw [if_neg ht, Bool.not_eq_true _ |>.mp ht, need_3, clpm_l, m_raises, cl_e]
      exact ⟨_, _, _, _, rfl, rfl, fin_x I0 1 rfl _ _ rfl⟩
  · rw [if_neg hp, Bool.not_eq_true _ |>.mp hp, need_2, clpm_l, m_raises, cl_e]
    exact ⟨_, _, _, _, rfl, rfl, fin_x I0 0 rfl _ _ rfl⟩
theorem st_groupTold (I : Inv Mx Mm) (p g q : Int32) : ∃ rx vm Mm', fX9_groupTold Mx p g q = some rx ∧ fX10_groupTold Mm p g q = some (vm, Mm') ∧ Agr [0, 1] rx vm Mm' ∧ Inv Mx Mm' := by
  have I0 := I.th 0
  obtain ⟨N, hN⟩ : ∃ z, z = mset Mm 0 0 0 := ⟨_, rfl⟩
  rw [← hN] at I0
  obtain ⟨hR, hV, hH, hT⟩ := id I0
  have h00 : N 0 0 = 0 := by rw [hN, ms_at, if_pos ⟨rfl, rfl⟩]
  unfold fX9_groupTold fX10_groupTold
  simp only [bnd_e, ← hN, jn_e]
  by_cases hj : inJ (N 1) p = true
  · obtain ⟨j, rfl, hj4, hl⟩ := inJ_ex hV hj
    have hJ := hV.2.1 j hj4 hl
    obtain ⟨n, hn6, hn⟩ := hJ.sz
    rw [m_ig hj4 hj, clp_e, b01_ite, f_in, clp_e, b01_ite]
    by_cases hg : inG (N 1) j g = true
    · obtain ⟨g, rfl, hg6, hgl⟩ := inG_ex hJ hg
      rw [x_fw hR hV hj4 hl hg, clpx_r, grd_T (jb hj4), if_pos hg]
      have ig : inb (nI g) 6 = true := inb_nI hg6 (by omega)
      simp only [grd_T ig, nI_clamp (show g < 2 ^ 31 by omega)]
      rw [(hR.j hj4).kd hg6, (hR.j hj4).ls hg6, x_byRequest (hR.j hj4) hg6, clp_e, b01_01 (rq (N 1) j g) (fun z => (some (Sum.inr z) : Option (Nat ⊕ Int32))), x_confSet (hR.j hj4) hl hJ hn hn6 hg6, clp_e, (hR.j hj4).lt hg6, (hR.j hj4).as hg6 hgl, x_given (hR.j hj4) hg6, clp_e, b01_01 (gv (N 1) j g) (fun z => (some (Sum.inr z) : Option (Nat ⊕ Int32))), x_headCount (hR.j hj4) hJ hg6 hgl, clp_e, m_confSet hj4 hg6 hn hn6, m_heads hj4 hg6, clp_e]
      by_cases hq : (decide (0 ≤ q) && decide (q ≤ 7)) = true
      · rw [if_pos hq]
        obtain ⟨q, rfl, hq7⟩ := inb_ex (n := 7) (dec_ct hq)
        rcases (show q = 0 ∨ q = 1 ∨ q = 2 ∨ q = 3 ∨ q = 4 ∨ q = 5 ∨ q = 6 ∨ q = 7 by omega) with rfl | rfl | rfl | rfl | rfl | rfl | rfl | rfl
        · rw [if_pos (by decide), if_neg (by decide), m_groupOf hj4 hg6 (by omega), clp_e]
          exact ⟨_, _, _, rfl, rfl, ⟨h00, rfl⟩, I0⟩
        · rw [if_neg (by decide), if_pos (by decide), if_neg (by decide), m_groupOf hj4 hg6 (by omega), clp_e]
          exact ⟨_, _, _, rfl, rfl, ⟨h00, rfl⟩, I0⟩
        · rw [if_neg (by decide), if_neg (by decide), if_pos (by decide), if_neg (by decide), m_groupOf hj4 hg6 (by omega), clp_e]
          exact ⟨_, _, _, rfl, rfl, ⟨h00, rq_val hJ hg6⟩, I0⟩
        · rw [if_neg (by decide), if_neg (by decide), if_neg (by decide), if_pos (by decide), if_pos (by decide), if_pos (by decide)]
          exact ⟨_, _, _, rfl, rfl, ⟨h00, rfl⟩, I0⟩
        · rw [if_neg (by decide), if_neg (by decide), if_neg (by decide), if_neg (by decide), if_pos (by decide), if_pos (by decide), if_neg (by decide), if_neg (by decide), show nI 4 - 1 = nI 3 by decide, m_groupOf hj4 hg6 (by omega), clp_e]
          exact ⟨_, _, _, rfl, rfl, ⟨h00, rfl⟩, I0⟩
        · rw [if_neg (by decide), if_neg (by decide), if_neg (by decide), if_neg (by decide), if_neg (by decide), if_pos (by decide), if_pos (by decide), if_neg (by decide), if_neg (by decide), show nI 5 - 1 = nI 4 by decide, m_groupOf hj4 hg6 (by omega), clp_e]
          exact ⟨_, _, _, rfl, rfl, ⟨h00, rfl⟩, I0⟩
        · rw [if_neg (by decide), if_neg (by decide), if_neg (by decide), if_neg (by decide), if_neg (by decide), if_neg (by decide), if_pos (by decide), if_pos (by decide), if_neg (by decide), if_neg (by decide), show nI 6 - 1 = nI 5 by decide, m_groupOf hj4 hg6 (by omega), clp_e]
          exact ⟨_, _, _, rfl, rfl, ⟨h00, gv_val hJ hg6⟩, I0⟩
        · rw [if_neg (by decide), if_neg (by decide), if_neg (by decide), if_neg (by decide), if_neg (by decide), if_neg (by decide), if_neg (by decide), if_pos (by decide), if_pos (by decide), if_neg (by decide), if_pos (by decide)]
          exact ⟨_, _, _, rfl, rfl, ⟨h00, rfl⟩, I0⟩
      · obtain ⟨z0, z1, z2, z3, z4, z5, z6, z7⟩ := not_lit hq
        rw [if_neg hq, if_neg z0, if_neg z1, if_neg z2, if_neg z3, if_neg z4, if_neg z5, if_neg z6, if_neg z7, m_raises, cl_e]
        exact ⟨_, _, _, rfl, rfl, fin_x I0 1 rfl _ _ rfl⟩
    · rw [x_fw_nog hR hV hj4 hl (Bool.not_eq_true _ |>.mp hg), clpx_l, if_neg hg, m_raises, cl_e]
      exact ⟨_, _, _, rfl, rfl, fin_x I0 0 rfl _ _ rfl⟩
  · have hj' := Bool.not_eq_true _ |>.mp hj
    rw [x_fw_noj hR hj', clpx_l, m_ig_no hj', clp_e, if_pos rfl, m_raises, cl_e]
    exact ⟨_, _, _, rfl, rfl, fin_x I0 0 rfl _ _ rfl⟩
end O6
