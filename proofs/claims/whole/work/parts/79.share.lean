/-! call: litShare -/
theorem shl23 {e : Nat} (h : e < 128) : nI e <<< ((23 : Int32) &&& 31) = nI (e * 8388608) := by
  have key : ∀ e : Fin 128, nI e.val <<< ((23 : Int32) &&& 31) = nI (e.val * 8388608) := by decide +kernel
  exact key ⟨e, h⟩
theorem nn_FF {c : Nat} {q : Int} (h : Nrm c q) (hq : q ≤ 0) : nn32 (FF c q) = true := by
  refine nn32_of ?_
  have h1 := h.2.1
  have h2 := h.2.2.1
  rw [FF_enc h, UInt32.toNat_ofNat']
  have e : (q + 149).toNat ≤ 149 := by omega
  generalize (q + 149).toNat = d at e
  omega
theorem f2i_FF (M : Mem) {c : Nat} {q : Int} (h : Nrm c q) : fJxf58ca_floatToIntBits_5c35a M (FF c q) = some (nI ((q + 149).toNat * 8388608 + c)) := by
  have hn : FP.fcmp (FF c q) (FF c q) = some .eq := by
    rw [FP.fcmp_core]
    refine FP.Core.fcmp_refl ?_
    rw [FP.Core.notNaN_iff32, val_FF h]
    exact fun z => by cases z
  unfold fJxf58ca_floatToIntBits_5c35a fJxf58ca_isNaN_12338
  rw [jn_e, hn, if_pos (by decide)]
  dsimp only
  rw [grd_T (by decide), clp_e, if_pos rfl, FF_enc h]
  rfl
theorem x_bits (M : Mem) {c : Nat} {q : Int} (h : Nrm c q) (h1 : -40 ≤ q) (h2 : q ≤ -23) : fX9_bitsOfShare M (FF c q) = some (nI ((q + 149).toNat * 8388608 + c)) := by
  obtain ⟨d, hd⟩ : ∃ d : Nat, q = -23 - (d : Int) := ⟨(-23 - q).toNat, by omega⟩
  have hd17 : d ≤ 17 := by omega
  subst hd
  have hN : ∀ i : Nat, i ≤ d → Nrm c (-23 - (d : Int) + i) := fun i hi => ⟨h.1, h.2.1, by omega, by omega⟩
  unfold fX9_bitsOfShare
  rw [FF_gt0 h, if_pos (by decide), jn_e]
  refine lp_at (fun i => (FF c (-23 - (d : Int) + i), nI (127 - i))) d (by omega) ?_ (fun i hi k => ?_) (fun k => ?_)
  · show _ = (FF c (-23 - (d : Int) + (0 : Nat)), nI 127)
    rw [show -23 - (d : Int) + (0 : Nat) = -23 - (d : Int) by omega]; rfl
  · have hi1 := hN i (by omega)
    have hi2 := hN (i + 1) (by omega)
    simp only [fX9_bitsOfShare_L1]
    rw [FF_lt1 hi1 (by omega), if_neg (by decide), if_neg (show ¬ nI (127 - i) ≤ (1 : Int32) from nI_ge (a := 1) (by omega) (by omega)), FF_two hi1 (by omega)]
    rw [show -23 - (d : Int) + (i : Int) + 1 = -23 - (d : Int) + ((i + 1 : Nat) : Int) by omega, grd_T (nn_FF hi2 (by omega)), bnd_e, bnd_e]
    have e : nI (127 - i) + (-1) = nI (127 - (i + 1)) := by
      have := nI_pred (127 - (i + 1))
      rw [show 127 - (i + 1) + 1 = 127 - i by omega] at this
      rw [← this, Int32.sub_eq_add_neg]
    rw [e]
  · have hi1 := hN d (Nat.le_refl _)
    rw [show -23 - (d : Int) + (d : Int) = -23 by omega] at hi1
    simp only [fX9_bitsOfShare_L1]
    rw [show -23 - (d : Int) + (d : Int) = -23 by omega]
    rw [if_pos (by rcases FF_ge1 hi1 with e | e <;> rw [e] <;> decide), FF_scale hi1]
    have h0 : Nrm c 0 := ⟨h.1, h.2.1, by decide, by decide⟩
    rw [grd_T (nn_FF h0 (Int.le_refl _)), FF_int h0, shl23 (by omega), nI_add]
    have hc := h.1
    rw [show (8388608 : Int32) = nI 8388608 from rfl, nI_sub (by omega)]
    refine congrArg (fun z => some (nI z)) ?_
    rw [show (-23 - (d : Int) + 149).toNat = 126 - d by omega]
    omega
theorem st_litShare {Mx Mm : Mem} (I : Inv Mx Mm) (p g : Int32) : ∃ rx vm Mm', fX9_litShare Mx p g = some rx ∧ fX10_litShare Mm p g = some (vm, Mm') ∧ Agr [0, 5] rx vm Mm' ∧ Inv Mx Mm' := by
  have I0 := I.th 0
  obtain ⟨N, hN⟩ : ∃ z, z = mset Mm 0 0 0 := ⟨_, rfl⟩
  rw [← hN] at I0
  obtain ⟨hR, hV, hH, hT⟩ := id I0
  have h00 : N 0 0 = 0 := by rw [hN, ms_at, if_pos ⟨rfl, rfl⟩]
  have z0 : Int32.toInt 0 = 0 := rfl
  have z1 : Int32.toInt 1 = 1 := rfl
  unfold fX9_litShare fX10_litShare
  simp only [bnd_e, ← hN, jn_e]
  by_cases hj : inJ (N 1) p = true
  · obtain ⟨j, rfl, hj4, hl⟩ := inJ_ex hV hj
    have hJ := hV.2.1 j hj4 hl
    rw [m_ig hj4 (inJ_T hV hj4 hl), clp_e, b01_ite]
    by_cases ha : inG (N 1) j g = true
    · rw [if_pos ha, x_fw hR hV hj4 hl ha, clpx_r, grd_T (jb hj4), hR.w2, grd_T ib3, tc3]
      obtain ⟨g, rfl, hg6, hgl⟩ := inG_ex hJ ha
      have ht := hV.1.2.2.2.1
      by_cases c : N 1 3 = 0
      · rw [if_pos c, c, if_neg (by decide), m_raises, cl_e]
        exact ⟨_, _, _, rfl, rfl, fin_x I0 1 rfl _ _ rfl⟩
      · have c1 : 1 ≤ N 1 3 := by
          rw [ti_le, z1]
          rw [ti_eq, z0] at c
          have := ht.1
          omega
        rw [if_pos c1, if_neg c, grd_T (inb_nI hg6 (by omega)), nI_clamp (by omega), (hR.j hj4).lt hg6, show fX10_groupOf N (nI j) (nI g) 3 = some (N 1 (gx j g 3)) from m_groupOf hj4 hg6 (w := 3) (by omega), clp_e, grd_T ib3]
        have nz : (N 1 3).toInt ≠ 0 := by rw [ti_le, z1] at c1; omega
        have hlit := (hJ.2.2.2.2.2.2.1 g hg6).2.2.2.1
        obtain ⟨t, et, t1, t2⟩ := bt_nI (x := N 1 3) (hi := 99999) ht
        obtain ⟨a, ea, a1, a2⟩ := bt_nI (x := N 1 (gx j g 3)) hlit
        rw [et, nI_toInt t2] at a1
        rw [grd_T (nn32_div nz), grd_T (nn32_div nz), et, ea]
        by_cases a0 : a = 0
        · subst a0
          have e0 : FP.fdiv (FP.i2f (nI 0)) (FP.i2f (nI t)) = 0 := by
            have tz : 0 < t := by rw [et, nI_toInt t2] at nz; omega
            obtain ⟨Lt, lt, vt⟩ := val_nat (n := t) tz (by omega)
            have hz : FP.Core.val32 (0 : UInt32) = .fin false 0 (-149) := by decide +kernel
            have hi : FP.Core.val32 (FP.i2f (nI 0)) = .fin false 0 (-149) := by decide +kernel
            refine (FP.Core.val32_inj (by rw [hz]; exact fun z => by cases z) ?_).symm
            rw [FP.fdiv_core, FP.Core.val32_fdiv, hi, vt, hz]
            unfold FP.Core.quotient
            dsimp only
            rw [if_neg (by have := Nat.mul_pos tz (Nat.two_pow_pos (23 - Lt)); omega)]
            unfold FP.Core.roundRatio
            rw [if_pos rfl, b32_min]; rfl
          rw [e0]
          have ex : fX9_bitsOfShare Mx 0 = some 0 := by
            unfold fX9_bitsOfShare
            rw [if_neg (by decide +kernel)]
          have em : fJxf58ca_floatToIntBits_5c35a N 0 = some 0 := by
            unfold fJxf58ca_floatToIntBits_5c35a fJxf58ca_isNaN_12338
            rw [jn_e, if_pos (by decide +kernel)]
            dsimp only
            rw [grd_T (by decide), clp_e, if_pos rfl]
            rfl
          rw [ex, em, clp_e, clp_e]
          exact ⟨_, _, _, rfl, rfl, ⟨h00, rfl⟩, I0⟩
        · obtain ⟨cc, q, n1, n2, n3, n4⟩ := share_FF (a := a) (t := t) (by omega) (by omega) (by omega)
          rw [n4, x_bits Mx n1 n2 n3, f2i_FF N n1, clp_e, clp_e]
          exact ⟨_, _, _, rfl, rfl, ⟨h00, rfl⟩, I0⟩
    · rw [if_neg ha, x_fw_nog hR hV hj4 hl (Bool.not_eq_true _ |>.mp ha), clpx_l, m_raises, cl_e]
      exact ⟨_, _, _, rfl, rfl, fin_x I0 0 rfl _ _ rfl⟩
  · have hj' := Bool.not_eq_true _ |>.mp hj
    rw [x_fw_noj hR hj', clpx_l, m_ig_no hj', clp_e, if_pos rfl, m_raises, cl_e]
    exact ⟨_, _, _, rfl, rfl, fin_x I0 0 rfl _ _ rfl⟩
