/-! calls: meanWait, share -/
def AgF {α : Type} (xs : List Nat) (rx : Nat ⊕ α) (vm : α) (Mm : Mem) : Prop := match rx with
  | .inr v => Mm 0 0 = 0 ∧ vm = v
  | .inl e => ∃ i, xs[i]? = some e ∧ Mm 0 0 = nI (i + 1)
theorem nn64_of {r : UInt64} (h : r.toNat % 2 ^ 63 < 9218868437227405312) : nn64 r = true := by
  have e := FP.Core.mask_toNat r
  have e2 : UInt64.toNat 0x7ff0000000000000 = 9218868437227405312 := rfl
  refine decide_eq_true (UInt64.le_iff_toNat_le.mpr (Nat.le_trans (Nat.le_of_eq e) ?_))
  rw [e2]
  omega
theorem nn32_of {r : UInt32} (h : r.toNat % 2 ^ 31 < 2139095040) : nn32 r = true := by
  have e := FP.Core.mask_toNat32 r
  have e2 : UInt32.toNat 0x7f800000 = 2139095040 := rfl
  refine decide_eq_true (UInt32.le_iff_toNat_le.mpr (Nat.le_trans (Nat.le_of_eq e) ?_))
  rw [e2]
  omega
theorem nn64_div (a : Int32) {b : Int32} (hb : b.toInt ≠ 0) : nn64 (FP.ddiv (FP.i2d a) (FP.i2d b)) = true := by
  rw [FP.ddiv_core, FP.i2d_core]
  refine nn64_of ?_
  have h := FP.Core.ddiv_mag (K := 1056) (L := 1023) (FP.Core.i2d_mag a) (FP.Core.i2d_big hb).1 (FP.Core.i2d_big hb).2 (by omega) (by omega)
  omega
theorem nn32_div {a : Int32} {b : Int32} (hb : b.toInt ≠ 0) : nn32 (FP.fdiv (FP.i2f a) (FP.i2f b)) = true := by
  rw [FP.fdiv_core, FP.i2f_core]
  refine nn32_of ?_
  have h := FP.Core.fdiv_mag (K := 160) (L := 127) (FP.Core.i2f_mag a) (FP.Core.i2f_big hb).1 (FP.Core.i2f_big hb).2 (by omega) (by omega)
  omega
section O25
variable {Mx Mm : Mem}
theorem fin_f {α : Type} {Mx N : Mem} (I0 : Inv Mx N) {xs : List Nat} {e : Nat} (c : Nat) (h : xs[c]? = some e) (v : α) (w : Int32) (hw : w = nI (c + 1)) : AgF xs (.inl e) v (mset N 0 0 w) ∧ Inv Mx (mset N 0 0 w) := by
  subst hw
  exact ⟨⟨c, h, by rw [ms_at, if_pos ⟨rfl, rfl⟩]⟩, I0.th _⟩
theorem st_meanWait (I : Inv Mx Mm) : ∃ rx vm Mm', fX9_meanWait Mx = some rx ∧ fX10_meanWait Mm = some (vm, Mm') ∧ AgF [5] rx vm Mm' ∧ Inv Mx Mm' := by
  have I0 := I.th 0
  obtain ⟨N, hN⟩ : ∃ z, z = mset Mm 0 0 0 := ⟨_, rfl⟩
  rw [← hN] at I0
  obtain ⟨hR, hV, hH, hT⟩ := id I0
  have h00 : N 0 0 = 0 := by rw [hN, ms_at, if_pos ⟨rfl, rfl⟩]
  obtain ⟨n, hn4, hn⟩ := hV.ct
  have e6 := x_sumOf (w := 6) hR hn hn4 (f := fun j => Mx (1 + 2 + 10 * j) 5) (fun j _ => x_am6)
  rw [sum4 hn4 (fun j hj hl => (hR.2.2.2.2.2.2.2 j hj (by rw [hn]; exact nI_nlt hl (by omega))).1)] at e6
  have q6 : Mx (1 + 2 + 10 * 0) 5 + Mx (1 + 2 + 10 * 1) 5 + Mx (1 + 2 + 10 * 2) 5 + Mx (1 + 2 + 10 * 3) 5 = N 1 4 := hR.2.2.2.2.2.1
  have e8 := x_sumOf (w := 8) hR hn hn4 (f := fun j => Mx (1 + 2 + 10 * j) 6) (fun j _ => x_am8)
  rw [sum4 hn4 (fun j hj hl => (hR.2.2.2.2.2.2.2 j hj (by rw [hn]; exact nI_nlt hl (by omega))).2)] at e8
  have q8 : Mx (1 + 2 + 10 * 0) 6 + Mx (1 + 2 + 10 * 1) 6 + Mx (1 + 2 + 10 * 2) 6 + Mx (1 + 2 + 10 * 3) 6 = N 1 5 := hR.2.2.2.2.2.2.1
  rw [q6] at e6
  rw [q8] at e8
  unfold fX9_meanWait fX10_meanWait
  simp only [bnd_e, ← hN, jn_e]
  have z0 : Int32.toInt 0 = 0 := rfl
  have z1 : Int32.toInt 1 = 1 := rfl
  have lo := hV.1.2.2.2.2.1
  rw [e6, clp_e, grd_T ib4, tc4]
  by_cases c : N 1 4 = 0
  · rw [if_neg (by rw [c]; decide), if_pos c, m_raises, cl_e]
    exact ⟨_, _, _, rfl, rfl, fin_f I0 0 rfl _ _ rfl⟩
  · have c' := c
    rw [ti_eq, z0] at c'
    rw [if_pos (by rw [ti_le, z1]; omega), e8, clp_e, if_neg c, grd_T (nn64_div _ c'), grd_T ib5, grd_T ib4, tc5, grd_T (nn64_div _ c')]
    exact ⟨_, _, _, rfl, rfl, ⟨h00, rfl⟩, I0⟩
theorem st_share (I : Inv Mx Mm) (p : Int32) : ∃ rx vm Mm', fX9_share Mx p = some rx ∧ fX10_share Mm p = some (vm, Mm') ∧ AgF [1, 4] rx vm Mm' ∧ Inv Mx Mm' := by
  have I0 := I.th 0
  obtain ⟨N, hN⟩ : ∃ z, z = mset Mm 0 0 0 := ⟨_, rfl⟩
  rw [← hN] at I0
  obtain ⟨hR, hV, hH, hT⟩ := id I0
  have h00 : N 0 0 = 0 := by rw [hN, ms_at, if_pos ⟨rfl, rfl⟩]
  obtain ⟨n, hn4, hn⟩ := hV.ct
  obtain ⟨c, hc120, hc⟩ := hV.cn
  have nz : (N 1 0).toInt ≠ 0 := by have := hV.c0; omega
  unfold fX9_share fX10_share
  simp only [bnd_e, ← hN, jn_e]
  rw [f_isDirection, clp_e, f_in, clp_e, b01_ite]
  by_cases hp : (decide (0 ≤ p) && decide (p ≤ 1)) = true
  · obtain ⟨d, rfl, hd⟩ := plan_ex hp
    rw [if_pos hp, hp, need_T, clpx_r, x_possible hR hV hn hn4 hd, clp_e, m_possible hV hn hn4 hd, clp_e, b01_ite]
    by_cases hpos : pos (N 1) d n = true
    · obtain ⟨K, k1, k2⟩ := m_bands hV hn hn4 hd hpos hc hc120
      have k11 : K 1 = N 1 := k2.1 1 (by omega)
      rw [hpos, need_T, clpx_r, x_band hR hV hn hn4 hd hpos hc hc120, clp_e, if_pos rfl, k1, cl_e, hR.w0, grd_T (nn32_div nz), grd_T ib0, tc0, k11, grd_T (nn32_div nz)]
      exact ⟨_, _, _, rfl, rfl, ⟨by rw [k2.2 0 (by omega) (by omega), h00], rfl⟩, I0.num k11 k2.mf⟩
    · rw [Bool.not_eq_true _ |>.mp hpos, need_5, clpx_l, if_neg (by decide), m_raises, cl_e]
      exact ⟨_, _, _, rfl, rfl, fin_f I0 1 rfl _ _ rfl⟩
  · rw [if_neg hp, Bool.not_eq_true _ |>.mp hp, need_2, clpx_l, m_raises, cl_e]
    exact ⟨_, _, _, rfl, rfl, fin_f I0 0 rfl _ _ rfl⟩
end O25
