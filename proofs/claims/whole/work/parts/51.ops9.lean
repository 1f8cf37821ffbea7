/-! calls: hinders, green, conflict -/
theorem bad_id {N : Mem} {xs : List Nat} {g : Mem → Option (Int32 × Mem)} {mf : Option (Int32 × Mem)} (f : Int32) (c e : Nat) (hf : f ≠ 0) (hr : ∀ M, fX9_raise M f = some (.inl e)) (hx : xs[c]? = some e) (hc : c < 5) (hm : mf = some (nI (c + 1), N)) (h : ∀ Mx, RS Mx 1 (N 1) → g Mx = some (f, Mx)) : CmdBad N xs g mf :=
  ⟨f, c, e, N, hf, hr, hx, hc, hm, MFw.rf N, id, fun Mx hR h9 => ⟨Mx, h Mx hR, fun _ _ => rfl, fun _ _ => rfl, h9⟩⟩
def inL (A : Ar) (f l : Int32) : Bool := (decide (0 ≤ f) && decide (f ≤ A 0 - 1)) && (decide (1 ≤ l) && decide (l ≤ A 0))
theorem x_isGreen {M : Mem} {A : Ar} (hR : RS M 1 A) (f l : Int32) : fX9_isGreen M f l = some (b01 (inL A f l)) := by
  unfold fX9_isGreen inL
  simp only [hR.w0, clp_e, jn_e, f_isWithin, b01_ite]
  cases (decide (0 ≤ f) && decide (f ≤ A 0 - 1)) <;> cases (decide (1 ≤ l) && decide (l ≤ A 0)) <;> rfl
theorem m_isG {M : Mem} (f l : Int32) : fX10_isGreen M f l = some (b01 (inL (M 1) f l)) := m_isGreen f l
theorem inL_bt {A : Ar} (V : Val A) {f l : Int32} (h : inL A f l = true) : bt f 0 ((A 0).toInt - 1) ∧ bt l 1 (A 0).toInt := by
  unfold inL at h
  rw [Bool.and_eq_true] at h
  have h1 := dec_ct h.1
  have h2 := dec_ct h.2
  have hc := V.1.1
  rw [ti_sub (by have := hc.1; show _ ≤ (A 0).toInt - 1; omega) (by have := hc.2; show (A 0).toInt - 1 < _; omega)] at h1
  exact ⟨h1, h2⟩
theorem rsn0 {c3 c4 c5 : Nat → Bool} {n : Nat} (h : rsn c3 c4 c5 n = 0) : ∀ o, o < n → c3 o = false ∧ c4 o = false ∧ c5 o = false := by
  have key : ∀ x y z : Bool, pick (!x) (!y) (!z) = 0 → x = true ∧ y = true ∧ z = true := by decide
  obtain ⟨a, b, c⟩ := key _ _ _ h
  intro o ho
  have h1 := al_T.mp a o ho
  have h2 := al_T.mp b o ho
  have h3 := al_T.mp c o ho
  cases q1 : c3 o <;> cases q2 : c4 o <;> cases q3 : c5 o <;> simp_all
theorem rsn_bt (c3 c4 c5 : Nat → Bool) (n : Nat) : bt (rsn c3 c4 c5 n) 0 8 := by
  have key : ∀ x y z : Bool, 0 ≤ (pick (!x) (!y) (!z)).toInt ∧ (pick (!x) (!y) (!z)).toInt ≤ 8 := by decide
  exact key _ _ _
theorem nc_of {A : Ar} {j : Nat} (v : VJ A j) {p g n : Nat} {f l : Int32} (hn : A (ix j 2) = nI n) (h6 : n ≤ 6) (hg : g < 6) (h : rsnG A j p g f l n = 0) : ∀ o, o < 6 → 0 ≤ kl A j g o → 0 < ln A j p o → NC (A 0) f l (fs A j p o) (ln A j p o) (kl A j g o) ∧ NC (A 0) (fs A j p o) (ln A j p o) f l (kl A j o g) := by
  intro o ho hk hl
  have hon : o < n := sz_lt hn h6 ho ((v.2.2.2.2.2.2.2 g hg o ho).2.2.1 hk).2.2
  obtain ⟨h1, h2, h3⟩ := rsn0 h o hon
  unfold d3 at h1
  unfold d4 at h2
  unfold d5 at h3
  rw [show cf A j g o = true from decide_eq_true hk, show gr A j p o = true from decide_eq_true hl, Bool.and_self, Bool.true_and] at h1 h2 h3
  unfold mt at h1
  rw [Bool.or_eq_false_iff, decide_eq_false_iff_not, decide_eq_false_iff_not] at h1
  rw [decide_eq_false_iff_not] at h2 h3
  obtain ⟨h4, h5⟩ := h1
  rw [ti_lt] at h2 h3 h4 h5
  unfold NC
  simp only [ti_le]
  omega
section O9
variable {Mx Mm : Mem}
theorem st_hinders (I : Inv Mx Mm) (p q g f l : Int32) : ∃ rx vm Mm', fX9_hinders Mx p q g f l = some rx ∧ fX10_hinders Mm p q g f l = some (vm, Mm') ∧ Agr [0, 1] rx vm Mm' ∧ Inv Mx Mm' := by
  have I0 := I.th 0
  obtain ⟨N, hN⟩ : ∃ z, z = mset Mm 0 0 0 := ⟨_, rfl⟩
  rw [← hN] at I0
  obtain ⟨hR, hV, hH, hT⟩ := id I0
  have h00 : N 0 0 = 0 := by rw [hN, ms_at, if_pos ⟨rfl, rfl⟩]
  have hc := hV.c0
  unfold fX9_hinders fX10_hinders
  simp only [bnd_e, ← hN, jn_e]
  by_cases hj : inJ (N 1) p = true
  · obtain ⟨j, rfl, hj4, hl⟩ := inJ_ex hV hj
    have hJ := hV.2.1 j hj4 hl
    obtain ⟨n, hn6, hn⟩ := hJ.sz
    rw [m_ip hj, clp_e, b01_ite, m_ig hj4 hj, clp_e, b01_ite]
    by_cases hg : inG (N 1) j g = true
    · obtain ⟨g, rfl, hg6, hgl⟩ := inG_ex hJ hg
      have hgn := sz_lt hn hn6 hg6 hgl
      rw [x_fw hR hV hj4 hl hg, clpx_r, grd_T (jb hj4), f_isPlan, clp_e, if_pos hg]
      by_cases hq : (decide (0 ≤ q) && decide (q ≤ 1)) = true
      · obtain ⟨q, rfl, hq2⟩ := plan_ex hq
        rw [if_pos hq, hq, need_T, clpx_r, x_isGreen hR, clp_e, m_isG, clp_e, b01_ite]
        by_cases hi : inL (N 1) f l = true
        · obtain ⟨hf, hll⟩ := inL_bt hV hi
          obtain ⟨K, k1, k2, k3⟩ := m_hindered hV hj4 hl hn hn6 hq2 hgn hf hll
          rw [hi, need_T, clpx_r, if_pos rfl, hR.w0, x_reasonG (hR.j hj4) hl hJ hn hn6 hq2 hg6 f l hc, clp_e, m_first hj4 hq2 hg6, clp_e, m_length hj4 hq2 hg6, clp_e, k1, cl_e, m_puts _ _ hj4 hq2 hg6, cl_e]
          refine ⟨_, _, _, rfl, rfl, ⟨by rw [ms_other _ _ _ (by omega), ms_other _ _ _ (by omega), k3 0 (by omega), h00], rfl⟩, I0.num ?_ (MF.set1 (MF.set1 ⟨fun k _ => by rw [k3 0 (by omega)], k3 2 (by omega), k3 3 (by omega), k3 5 (by omega), k3 6 (by omega)⟩))⟩
          rw [ms_same, ms_same, k2]
          exact Pg_back hq2
        · rw [Bool.not_eq_true _ |>.mp hi, need_2, clpx_l, if_neg (by decide), m_raises, cl_e]
          exact ⟨_, _, _, rfl, rfl, fin_x I0 1 rfl _ _ rfl⟩
      · rw [if_neg hq, Bool.not_eq_true _ |>.mp hq, need_1, clpx_l, m_raises, cl_e]
        exact ⟨_, _, _, rfl, rfl, fin_x I0 0 rfl _ _ rfl⟩
    · rw [x_fw_nog hR hV hj4 hl (Bool.not_eq_true _ |>.mp hg), clpx_l, if_neg hg, m_raises, cl_e]
      by_cases hq : (decide (0 ≤ q) && decide (q ≤ 1)) = true
      · rw [if_pos hq]
        exact ⟨_, _, _, rfl, rfl, fin_x I0 0 rfl _ _ rfl⟩
      · rw [if_neg hq]
        exact ⟨_, _, _, rfl, rfl, fin_x I0 0 rfl _ _ rfl⟩
  · have hj' := Bool.not_eq_true _ |>.mp hj
    rw [x_fw_noj hR hj', clpx_l, m_ip_no hj', clp_e, if_pos rfl, m_raises, cl_e]
    exact ⟨_, _, _, rfl, rfl, fin_x I0 0 rfl _ _ rfl⟩
theorem why_bt (A : Ar) (j p g : Nat) (f l : Int32) (n : Nat) : bt (if A (gx j g 1) ≤ l then (if l ≤ A 0 - 5 then rsnG A j p g f l n else 2) else 1) 0 8 := by
  split
  · split
    · exact rsn_bt _ _ _ _
    · unfold bt; decide
  · unfold bt; decide
theorem cmd_green {N : Mem} (V : Val (N 1)) (p q g f l : Int32) : CmdOk N [0, 1, 2, 3] (fun M => fX9_greenFault M p q g f l) (fun M => fX9_giveGreen M p q g f l) (fX10_greened N p q g f l) := by
  have hc := V.c0
  unfold fX10_greened
  simp only [jn_e]
  by_cases hj : inJ (N 1) p = true
  · obtain ⟨j, rfl, hj4, hl⟩ := inJ_ex V hj
    have hJ := V.2.1 j hj4 hl
    obtain ⟨n, hn6, hn⟩ := hJ.sz
    rw [m_ip hj, clp_e, b01_ite, m_ig hj4 hj, clp_e, b01_ite]
    by_cases hq : (decide (0 ≤ q) && decide (q ≤ 1)) = true
    · rw [if_pos hq]
      by_cases hg : inG (N 1) j g = true
      · obtain ⟨g, rfl, hg6, hgl⟩ := inG_ex hJ hg
        obtain ⟨q, rfl, hq2⟩ := plan_ex hq
        have hgn := sz_lt hn hn6 hg6 hgl
        rw [if_pos hg, m_isG, clp_e, b01_ite]
        have pre : ∀ Mx, RS Mx 1 (N 1) → fX9_greenFault Mx (nI j) (nI q) (nI g) f l = if inL (N 1) f l = true then (if decide (0 ≤ N 1 (ix j 4)) = true then some (3, Mx) else cl (fX9_faultOfReason Mx (if N 1 (gx j g 1) ≤ l then (if l ≤ N 1 0 - 5 then rsnG (N 1) j q g f l n else 2) else 1)) (fun x7 M8 => some (x7, M8))) else some (2, Mx) := fun Mx hR => by
          unfold fX9_greenFault
          rw [x_find hR V hj4 hl, clpn_s, grd_T (jb hj4), f_isPlan, clp_e, b01_ite, if_pos hq, x_hg (hR.j hj4), clp_e, b01_ite, if_pos hg, x_isGreen hR, clp_e, b01_ite, x_planned (hR.j hj4) hl hJ, clp_e, b01_ite, hR.w0, x_reasonG (hR.j hj4) hl hJ hn hn6 hq2 hg6 f l hc, clp_e]
        by_cases hi : inL (N 1) f l = true
        · rw [if_pos hi, m_of4 hj4, clp_e]
          by_cases hch : N 1 (ix j 4) < 0
          · have hch' : ¬ decide (0 ≤ N 1 (ix j 4)) = true := by rw [decide_eq_true_iff, ti_le]; rw [ti_lt] at hch; omega
            obtain ⟨hf, hll⟩ := inL_bt V hi
            obtain ⟨K, k1, k2, k3⟩ := m_hindered V hj4 hl hn hn6 hq2 hgn hf hll
            have hbt := why_bt (N 1) j q g f l n
            have kM : MFw N K := ⟨fun k _ => by rw [k3 0 (by omega)], k3 2 (by omega), k3 3 (by omega), k3 5 (by omega), k3 6 (by omega), k3 4 (by omega), by rw [k3 0 (by omega)]⟩
            rw [if_pos hch, k1, cl_e]
            obtain ⟨w, hw⟩ : ∃ w, w = (if N 1 (gx j g 1) ≤ l then (if l ≤ N 1 0 - 5 then rsnG (N 1) j q g f l n else 2) else 1) := ⟨_, rfl⟩
            rw [← hw] at hbt pre ⊢
            have z0 : Int32.toInt 0 = 0 := rfl
            by_cases hz : w = 0
            · have h1 : N 1 (gx j g 1) ≤ l := by
                by_cases c : N 1 (gx j g 1) ≤ l
                · exact c
                · rw [if_neg c, hz] at hw; exact absurd hw (by decide)
              rw [if_pos h1] at hw
              have h2 : l ≤ N 1 0 - 5 := by
                by_cases c : l ≤ N 1 0 - 5
                · exact c
                · rw [if_neg c, hz] at hw; exact absurd hw (by decide)
              rw [if_pos h2, hz] at hw
              have vj : VJ (K 1) j := by
                rw [k2]
                have hc0 := V.1.1
                have e5 : (N 1 0 - 5).toInt = (N 1 0).toInt - 5 := ti_sub (by have := hc0.1; show _ ≤ (N 1 0).toInt - 5; omega) (by have := hc0.2; show (N 1 0).toInt - 5 < _; omega)
                rw [ti_le, e5] at h2
                exact V_gr hq2 hg6 hgl hJ hf ⟨by have := hll.1; omega, by omega⟩ (fun z => by rw [z] at hll; have := hll.1; omega) (fun _ => nc_of hJ hn hn6 hg6 hw.symm)
              have en : K 1 (ix j 2) = nI n := by rw [k2, Pg_i (by omega)]; exact hn
              rw [hz, if_pos (by decide), m_greens hj4 en hn6 hq2, clp_e, bnd_e]
              refine Or.inr ⟨_, _, rfl, by rw [ms_at, if_pos ⟨rfl, rfl⟩], kM.set0 (by omega), by rw [ms_at, if_neg (by omega), k3 0 (by omega)], ?_, fun Mx hR => ⟨?_, mset (mset Mx (1 + 2 + 10 * j + 8) (6 * q + g) f) (1 + 2 + 10 * j + 9) (6 * q + g) l, ?_, XF.set (XF.set (XF.rf Mx) (by omega)) (by omega), ?_⟩⟩
              · rw [ms_other _ _ _ (by omega)]
                refine Val_lift V hj4 hl (fun k hk => ?_) ?_ vj
                · rw [k2]; exact Pg_k (by unfold ix at hk; unfold gx; omega) (by unfold ix at hk; unfold gx; omega)
                · rw [k2]; exact Pg_i (by omega)
              · show fX9_greenFault Mx (nI j) (nI q) (nI g) f l = _
                rw [pre Mx hR, if_pos hi, if_neg hch', hz]
                unfold fX9_faultOfReason
                rw [if_pos rfl, cl_e]
              · have rj : RJ (mset (mset Mx (1 + 2 + 10 * j + 8) (6 * q + g) f) (1 + 2 + 10 * j + 9) (6 * q + g) l) (1 + 2 + 10 * j) (K 1) j := by
                  rw [k2]; exact u_ln hq2 hg6 l (u_fs hq2 hg6 f (hR.j hj4))
                show fX9_giveGreen Mx (nI j) (nI q) (nI g) f l = _
                unfold fX9_giveGreen
                rw [x_found hR V hj4 hl, clpm_r, grd_T (jb hj4), x_setGreen hq2 hg6, cl_e, x_greenCount rj en hn6 hq2, clp_e]
              · rw [ms_other _ _ _ (by omega), k2]
                exact RS_lift hR hj4 (fun o _ _ ho => by rw [ms_other _ _ _ (by omega), ms_other _ _ _ (by omega)]) (by rw [ms_other _ _ _ (by omega), ms_other _ _ _ (by omega)]) (by rw [ms_other _ _ _ (by omega), ms_other _ _ _ (by omega)]) (fun k hk => Pg_k (by unfold ix at hk; unfold gx; omega) (by unfold ix at hk; unfold gx; omega)) (u_ln hq2 hg6 l (u_fs hq2 hg6 f (hR.j hj4)))
            · have hw0 : ¬ w ≤ 0 := by
                intro z
                rw [ti_le, z0] at z
                exact hz (by rw [ti_eq, z0]; have := hbt.1; omega)
              rw [if_neg hw0, bnd_e]
              refine Or.inl ⟨4, 3, 3, _, by decide, fun _ => raise_4, rfl, by omega, rfl, kM.set0 (by omega), fun _ => by rw [ms_at, if_pos ⟨rfl, rfl⟩]; exact hbt, fun Mx hR h9 => ⟨mset Mx 0 9 w, ?_, fun o ho => ms_other _ _ _ ho, fun k hk => by rw [ms_at, if_neg (by omega)], by rw [ms_at, if_pos ⟨rfl, rfl⟩, ms_at, if_pos ⟨rfl, rfl⟩]⟩⟩
              show fX9_greenFault Mx (nI j) (nI q) (nI g) f l = _
              rw [pre Mx hR, if_pos hi, if_neg hch']
              unfold fX9_faultOfReason
              rw [if_neg hz, bnd_e, cl_e]
          · rw [if_neg hch]
            refine Or.inl (bad_id 3 2 2 (by decide) (fun _ => raise_3) rfl (by omega) rfl (fun Mx hR => ?_))
            show fX9_greenFault Mx (nI j) (nI q) (nI g) f l = _
            rw [pre Mx hR, if_pos hi, if_pos (by rw [decide_eq_true_iff, ti_le]; rw [ti_lt] at hch; omega)]
        · rw [if_neg hi]
          refine Or.inl (bad_id 2 1 1 (by decide) (fun _ => raise_2) rfl (by omega) rfl (fun Mx hR => ?_))
          show fX9_greenFault Mx (nI j) (nI q) (nI g) f l = _
          rw [pre Mx hR, if_neg hi]
      · rw [if_neg hg]
        refine Or.inl (bad_id 1 0 0 (by decide) (fun _ => raise_1) rfl (by omega) rfl (fun Mx hR => ?_))
        show fX9_greenFault Mx (nI j) q g f l = _
        unfold fX9_greenFault
        rw [x_find hR V hj4 hl, clpn_s, grd_T (jb hj4), f_isPlan, clp_e, b01_ite, if_pos hq, x_hg (hR.j hj4), clp_e, b01_ite, if_neg hg]
    · rw [if_neg hq]
      refine Or.inl (bad_id 1 0 0 (by decide) (fun _ => raise_1) rfl (by omega) rfl (fun Mx hR => ?_))
      show fX9_greenFault Mx (nI j) q g f l = _
      unfold fX9_greenFault
      rw [x_find hR V hj4 hl, clpn_s, grd_T (jb hj4), f_isPlan, clp_e, b01_ite, if_neg hq]
  · have hj' := Bool.not_eq_true _ |>.mp hj
    rw [m_ip_no hj', clp_e, if_pos rfl]
    refine Or.inl (bad_id 1 0 0 (by decide) (fun _ => raise_1) rfl (by omega) rfl (fun Mx hR => ?_))
    show fX9_greenFault Mx p q g f l = _
    unfold fX9_greenFault
    rw [x_find_no hR hj', clpn_n]
theorem st_green (I : Inv Mx Mm) (p q g f l : Int32) : ∃ rx Mx' vm Mm', fX9_green Mx p q g f l = some (rx, Mx') ∧ fX10_green Mm p q g f l = some (vm, Mm') ∧ Agr [0, 1, 2, 3] rx vm Mm' ∧ Inv Mx' Mm' :=
  cmd_op I (fun N V => cmd_green (N := N) V p q g f l)
end O9
