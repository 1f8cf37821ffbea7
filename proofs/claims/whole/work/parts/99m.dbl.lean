/-! answers that are doubles -/
theorem nan64 {r : UInt64} (h : nn64 r = true) : FP.dIsNaN r = false := by
  have h1 : r &&& 0x7fffffffffffffff ≤ 0x7ff0000000000000 := of_decide_eq_true h
  have h2 := UInt64.le_iff_toNat_le.mp h1
  rw [FP.Core.mask_toNat] at h2
  have e2 : UInt64.toNat 0x7ff0000000000000 = 9218868437227405312 := rfl
  rw [e2] at h2
  cases e : FP.dIsNaN r with
  | false => rfl
  | true =>
    rw [FP.Core.isNaN_bits] at e
    exact absurd e (Nat.not_lt.mpr h2)
theorem nan32 {r : UInt32} (h : nn32 r = true) : FP.fIsNaN r = false := by
  have h1 : r &&& 0x7fffffff ≤ 0x7f800000 := of_decide_eq_true h
  have h2 := UInt32.le_iff_toNat_le.mp h1
  rw [FP.Core.mask_toNat32] at h2
  have e2 : UInt32.toNat 0x7f800000 = 2139095040 := rfl
  rw [e2] at h2
  cases e : FP.fIsNaN r with
  | false => rfl
  | true =>
    rw [FP.Core.isNaN_bits32] at e
    exact absurd e (Nat.not_lt.mpr h2)
theorem nan_vf {r : UInt64} (h : FP.dIsNaN r = false) : vf_n64 r := by
  refine UInt64.le_iff_toNat_le.mpr ?_
  rw [FP.Core.mask_toNat]
  have e2 : UInt64.toNat 0x7ff0000000000000 = 9218868437227405312 := rfl
  rw [e2]
  rcases Nat.lt_or_ge 9218868437227405312 (r.toNat % 2 ^ 63) with q | q
  · have e : FP.dIsNaN r = true := by
      rw [FP.Core.isNaN_bits]
      exact q
    rw [h] at e
    cases e
  · exact q
theorem f2d_vf {v : UInt32} (h : nn32 v = true) : FP.dIsNaN (FP.f2d v) = false := (FP.f2d_nan v).trans (nan32 h)
theorem dcmp0 {r : UInt64} (h : FP.dIsNaN r = false) (op : CmpOp) : Op.cmpValue (FP.dcmp r r) op = 0 := by
  have e : FP.dcmp r r = some .eq := FP.Core.dcmp_refl h
  rw [e]
  cases op <;> rfl
def ResF {α : Type} (xs : List Nat) (rx : Nat ⊕ α) (k : Int32) : Prop := match rx with
  | .inr _ => k = 0
  | .inl e => ∃ i, xs[i]? = some e ∧ k = nI (i + 1)
theorem resf {α : Type} {ks : List Nat} {rx : Nat ⊕ α} {vm : α} {Mm : Mem} (h : AgF ks rx vm Mm) : ResF ks rx (Mm 0 0) := by
  cases rx with
  | inr v => exact h.1
  | inl e0 => exact h
def ED {α : Type} (cD : ClassId) (cv : α → UInt64) (rx : Nat ⊕ α) : va_E → Prop := fun x => ∃ g : Nat → UInt64, x = dc cD g ∧ ∀ v, rx = .inr v → g 0 = cv v
section GWD
variable {p : Program} {l : Launch} {e : Env} {s : State} {m : MethodId} {args : Array Value} {below : List Frame} {meth : Method} {c : Code} {F Lc : Nat} {cc : ByteArray} {nL : Nat} {Ω : Wd} {pc : Nat} {L : List (Nat × Value)} {st : List Value} {M M' : Mem} {out : Nat} {x : va_E} {ls : Array Slot} {Q : State → Prop} {E : va_E → Prop}
theorem wr_retD {hh : List (Nat × Nat × Nat × Nat)} (B : KW p s m args meth c cc nL Ω out M x hh) {H1 : Heap} {locs1 : List Loc} {v : UInt64} {cD : ClassId} {f : Nat → UInt64} (hx : x = dc cD f) (t6 : Nat) (ht : (wT Ω)[t6]? = some (cD, .double)) (hE : ∀ g : Nat → UInt64, g 0 = v → E (dc cD g)) (hP1 : va_P (wG Ω) CL (wd Ω M') H1) (hS1 : va_S (AA Ω s.heap.size) s.heap H1 locs1) (pe : Nat) {off : Int} (hoff : ((pc + 1 : Nat) : Int) + off = (pe : Int)) (d2 : decode cc pc = .ok (.dastore, 1)) (d3 : decode cc (pc + 1) = .ok (.goto off, 3)) (d4 : decode cc pe = .ok (.iconst 0, 1)) (d5 : decode cc (pe + 1) = .ok (.ireturn, 1)) : W p l e (Rm F Lc true) s m args below meth c H1 locs1 0 0 (WQ below Ω out 0 M' E args s) (F0 m pc ls [.double v, .int 0, .ref out]) := by
  obtain ⟨b1, b2, b3, b4, b5, b6, b7, b8, b9, b10, b11, b12, b13, b14⟩ := B
  subst hx
  have ho : ¬ AA Ω s.heap.size out := fun z => by
    rcases z with ⟨i, hi, h⟩ | h
    · exact b11 i hi h
    · omega
  have hx1 : va_at (wG Ω) CL (out, dc cD f) H1 := (wo_x b13).kept (hS1.2.1 out b12 ho)
  have hS2 : va_S (AW Ω out s.heap.size) s.heap H1 locs1 := ⟨hS1.1, fun q h1 h2 => hS1.2.1 q h1 (fun z => h2 (Or.inl z)), fun q hq => Or.inl (hS1.2.2 q hq)⟩
  refine va_dast b1 b2 b6 (wo_mk hP1 hx1) (wo_D b10 b11 M' _ _) hS2 (wN Ω) t6 (wo_get _) ht (inb_in (by decide)) d2 (fun H2 locs2 hP2 _ hS3 => ?_)
  rw [wo_set] at hP2
  refine lv_goto b1 b2 d3 hoff ?_
  refine lv_iconst (v := 0) b1 b2 d4 (by decide) ?_
  refine W.widen (k := 1) (n := 6) (by omega) (by omega) ?_
  exact W.iret (v := 0) b1 b2 b9 (fun t ht hW => ⟨rfl, ⟨_, hE _ rfl, by rw [ht]; exact hP2⟩, hS3.F ht⟩) hS3.2.2 d5
end GWD
section STD
variable {Mx Mm : Mem}
theorem st2_meanWait (I : Inv Mx Mm) : ∃ rx vm Mm', fX9_meanWait Mx = some rx ∧ fX10_meanWait Mm = some (vm, Mm') ∧ AgF [5] rx vm Mm' ∧ Inv Mx Mm' ∧ ∀ v, rx = .inr v → nn64 v = true := by
  have I0 := I.th 0
  obtain ⟨N, hN⟩ : ∃ z, z = mset Mm 0 0 0 := ⟨_, rfl⟩
  rw [← hN] at I0
  obtain ⟨hR, hV, hH, hT⟩ := id I0
  have h00 : N 0 0 = 0 := by rw [hN, ms_at, if_pos ⟨rfl, rfl⟩]
  obtain ⟨n, hn4, hn⟩ := hV.ct
  have e6 := x_sumOf (w := 6) hR hn hn4 (f := fun j => Mx (1 + 2 + 10 * j) 5) (fun j _ => x_am6)
  rw [sum4 hn4 (fun j hj hl => (hR.2.2.2.2.2.2.2 j hj (by rw [hn]; exact nI_nlt hl (by omega))).1)] at e6
  have q6 : Mx (1 + 2 + 10 * 0) 5 + Mx (1 + 2 + 10 * 1) 5 + Mx (1 + 2 + 10 * 2) 5 + Mx (1 + 2 + 10 * 3) 5 = N 1 4 := hR.2.2.2.2.2.1
  have e8 := x_sumOf (w := 8) hR hn hn4 (f := fun j => Mx (1 + 2 + 10 * j) 6) (fun j _ => x_am8)
  rw [sum4 hn4 (fun j hj hl => (hR.2.2.2.2.2.2.2 j hj (by rw [hn]; exact nI_nlt hl (by omega))).2)] at e8
  have q8 : Mx (1 + 2 + 10 * 0) 6 + Mx (1 + 2 + 10 * 1) 6 + Mx (1 + 2 + 10 * 2) 6 + Mx (1 + 2 + 10 * 3) 6 = N 1 5 := hR.2.2.2.2.2.2.1
  rw [q6] at e6
  rw [q8] at e8
  unfold fX9_meanWait fX10_meanWait
  simp only [bnd_e, ← hN, jn_e]
  have z0 : Int32.toInt 0 = 0 := rfl
  have z1 : Int32.toInt 1 = 1 := rfl
  have lo := hV.1.2.2.2.2.1
  rw [e6, clp_e, grd_T ib4, tc4]
  by_cases c : N 1 4 = 0
  · rw [if_neg (by rw [c]; decide), if_pos c, m_raises, cl_e]
    exact ⟨_, _, _, rfl, rfl, and_assoc.mp ⟨fin_f I0 0 rfl _ _ rfl, fun v h => by cases h⟩⟩
  · have c' := c
    rw [ti_eq, z0] at c'
    rw [if_pos (by rw [ti_le, z1]; omega), e8, clp_e, if_neg c, grd_T (nn64_div _ c'), grd_T ib5, grd_T ib4, tc5, grd_T (nn64_div _ c')]
    exact ⟨_, _, _, rfl, rfl, ⟨h00, rfl⟩, I0, fun v h => by cases h; exact nn64_div _ c'⟩
theorem st2_share (I : Inv Mx Mm) (p : Int32) : ∃ rx vm Mm', fX9_share Mx p = some rx ∧ fX10_share Mm p = some (vm, Mm') ∧ AgF [1, 4] rx vm Mm' ∧ Inv Mx Mm' ∧ ∀ v, rx = .inr v → nn32 v = true := by
  have I0 := I.th 0
  obtain ⟨N, hN⟩ : ∃ z, z = mset Mm 0 0 0 := ⟨_, rfl⟩
  rw [← hN] at I0
  obtain ⟨hR, hV, hH, hT⟩ := id I0
  have h00 : N 0 0 = 0 := by rw [hN, ms_at, if_pos ⟨rfl, rfl⟩]
  obtain ⟨n, hn4, hn⟩ := hV.ct
  obtain ⟨c, hc120, hc⟩ := hV.cn
  have nz : (N 1 0).toInt ≠ 0 := by have := hV.c0; omega
  unfold fX9_share fX10_share
  simp only [bnd_e, ← hN, jn_e]
  rw [f_isDirection, clp_e, f_in, clp_e, b01_ite]
  by_cases hp : (decide (0 ≤ p) && decide (p ≤ 1)) = true
  · obtain ⟨d, rfl, hd⟩ := plan_ex hp
    rw [if_pos hp, hp, need_T, clpx_r, x_possible hR hV hn hn4 hd, clp_e, m_possible hV hn hn4 hd, clp_e, b01_ite]
    by_cases hpos : pos (N 1) d n = true
    · obtain ⟨K, k1, k2⟩ := m_bands hV hn hn4 hd hpos hc hc120
      have k11 : K 1 = N 1 := k2.1 1 (by omega)
      rw [hpos, need_T, clpx_r, x_band hR hV hn hn4 hd hpos hc hc120, clp_e, if_pos rfl, k1, cl_e, hR.w0, grd_T (nn32_div nz), grd_T ib0, tc0, k11, grd_T (nn32_div nz)]
      exact ⟨_, _, _, rfl, rfl, ⟨by rw [k2.2 0 (by omega) (by omega), h00], rfl⟩, I0.num k11 k2.mf, fun v h => by cases h; exact nn32_div nz⟩
    · rw [Bool.not_eq_true _ |>.mp hpos, need_5, clpx_l, if_neg (by decide), m_raises, cl_e]
      exact ⟨_, _, _, rfl, rfl, and_assoc.mp ⟨fin_f I0 1 rfl _ _ rfl, fun v h => by cases h⟩⟩
  · rw [if_neg hp, Bool.not_eq_true _ |>.mp hp, need_2, clpx_l, m_raises, cl_e]
    exact ⟨_, _, _, rfl, rfl, and_assoc.mp ⟨fin_f I0 0 rfl _ _ rfl, fun v h => by cases h⟩⟩
end STD
theorem vk_share : Cond.methodLink RL 97 yX9_share ∈ UW := tbu (tb5 (List.mem_of_getElem? (i := 17) rfl)) rfl
theorem vi_share : Cond.instanceMethod yX9_share ∈ UW := tbu (tb5 (List.mem_of_getElem? (i := 18) rfl)) rfl
theorem vs_share : Cond.selects RX9 yX9_share yX9_share ∈ UW := tbu (tb5 (List.mem_of_getElem? (i := 19) rfl)) rfl
theorem vc_share : Cond.code yX9_share cX9_share 2 (some .float) ∈ UW := tbu (tb5 (List.mem_of_getElem? (i := 20) rfl)) rfl
theorem vy_share : yOk yX9_share 1 := ⟨by decide +kernel, by decide +kernel, by decide +kernel⟩
theorem vk_meanWait : Cond.methodLink RL 125 yX9_meanWait ∈ UW := tbu (tb5 (List.mem_of_getElem? (i := 178) rfl)) rfl
theorem vi_meanWait : Cond.instanceMethod yX9_meanWait ∈ UW := tbu (tb5 (List.mem_of_getElem? (i := 179) rfl)) rfl
theorem vs_meanWait : Cond.selects RX9 yX9_meanWait yX9_meanWait ∈ UW := tbu (tb5 (List.mem_of_getElem? (i := 180) rfl)) rfl
theorem vc_meanWait : Cond.code yX9_meanWait cX9_meanWait 2 (some .double) ∈ UW := tbu (tb5 (List.mem_of_getElem? (i := 181) rfl)) rfl
theorem vy_meanWait : yOk yX9_meanWait 0 := ⟨by decide +kernel, by decide +kernel, by decide +kernel⟩
theorem us_share : Cond.methodLink RL 235 yL_share ∈ UW ∧ Cond.static yL_share ∈ UW ∧ Cond.initialized yL_share.cls ∈ UW ∧ Cond.codeWith yL_share cL_share 4 (some .int) [(0, 9, 12, 13), (0, 9, 15, 52)] ∈ UW := ⟨tbu (tb5 (List.mem_of_getElem? (i := 14) rfl)) rfl, tbu (tb5 (List.mem_of_getElem? (i := 15) rfl)) rfl, tbu (tb1 (List.mem_of_getElem? (i := 0) rfl)) rfl, tbu (tb5 (List.mem_of_getElem? (i := 16) rfl)) rfl⟩
theorem vw_share : yOk yL_share 3 := ⟨by decide +kernel, by decide +kernel, by decide +kernel⟩
theorem uv_X10_share : uw_V RL 238 RX10 yX10_share (.code yX10_share cX10_share 2 (some .float)) := ⟨tbu (tb7 (List.mem_of_getElem? (i := 224) rfl)) rfl, tbu (tb7 (List.mem_of_getElem? (i := 225) rfl)) rfl, tbu (tb7 (List.mem_of_getElem? (i := 226) rfl)) rfl, tbu (tb1 (List.mem_of_getElem? (i := 10) rfl)) rfl, tbu (tb7 (List.mem_of_getElem? (i := 227) rfl)) rfl⟩
theorem vz_X10_share : yOk yX10_share 1 := ⟨by decide +kernel, by decide +kernel, by decide +kernel⟩
theorem us_meanWait : Cond.methodLink RL 261 yL_meanWait ∈ UW ∧ Cond.static yL_meanWait ∈ UW ∧ Cond.initialized yL_meanWait.cls ∈ UW ∧ Cond.codeWith yL_meanWait cL_meanWait 3 (some .int) [(0, 7, 10, 123)] ∈ UW := ⟨tbu (tb5 (List.mem_of_getElem? (i := 175) rfl)) rfl, tbu (tb5 (List.mem_of_getElem? (i := 176) rfl)) rfl, tbu (tb1 (List.mem_of_getElem? (i := 0) rfl)) rfl, tbu (tb5 (List.mem_of_getElem? (i := 177) rfl)) rfl⟩
theorem vw_meanWait : yOk yL_meanWait 2 := ⟨by decide +kernel, by decide +kernel, by decide +kernel⟩
theorem uv_X10_meanWait : uw_V RL 264 RX10 yX10_meanWait (.code yX10_meanWait cX10_meanWait 1 (some .double)) := ⟨tbu (tb8 (List.mem_of_getElem? (i := 54) rfl)) rfl, tbu (tb8 (List.mem_of_getElem? (i := 55) rfl)) rfl, tbu (tb8 (List.mem_of_getElem? (i := 56) rfl)) rfl, tbu (tb1 (List.mem_of_getElem? (i := 10) rfl)) rfl, tbu (tb8 (List.mem_of_getElem? (i := 57) rfl)) rfl⟩
theorem vz_X10_meanWait : yOk yX10_meanWait 0 := ⟨by decide +kernel, by decide +kernel, by decide +kernel⟩
theorem cw_share {Ω : Wd} (l : Launch) (hO : OkW Ω) (hX : LX Ω) (hl0 : l.stackTraces = false) (hT : ThrOk Ω) (hN : NcX Ω) (t5 : Nat) {cL : ClassId} (ht : (wT Ω)[t5]? = some (cL, .double)) {out : Nat} (ho : ∀ i, i < wN Ω → wA Ω i ≠ out) (M : Mem) (p0 : Int32) (f : Nat → UInt64) {rx : Nat ⊕ UInt32} (hf : fX9_share M p0 = some rx) {k : Int32} (hnn : ∀ v, rx = .inr v → nn32 v = true) (hk : ResF [1, 4] rx k) : CtW l yL_share (.codeWith yL_share cL_share 4 (some .int) [(0, 9, 12, 13), (0, 9, 15, 52)]) 9 182 Ω out [.ref (wA Ω 0), .int p0, .ref out] M (dc cL f) k M (ED cL FP.f2d rx) := by
  refine wr_of [(0, .ref (wA Ω 0)), (1, .int p0), (2, .ref out)] hO ho (by decide +kernel) rfl (Nat.le_of_ble_eq_true rfl) rfl (fun p e s m below meth c B ls hl => ?_)
  have b1 := B.1
  have b2 := B.2.1
  refine lv_aload_n b1 b2 dL_share_0 rfl (lv_at hl 2 rfl) ?_
  refine lv_iconst (v := 0) b1 b2 dL_share_1 (by decide) ?_
  refine lv_aload_n b1 b2 dL_share_2 rfl (lv_at hl 0 rfl) ?_
  refine lv_iload_n b1 b2 dL_share_3 rfl (lv_at hl 1 rfl) ?_
  have hC := c_X9_share l hO hX hl0 hT M p0 _ hf
  cases rx with
  | inr v =>
    have hk0 : k = 0 := hk
    subst hk0
    exact wr_callR (v := some (.float v)) (M' := M) (As := [.int p0]) (st := [.int 0, .ref out]) B hC hX dL_share_4 ⟨vk_share, vi_share, vs_share, vn_X9, vc_share⟩ rfl vy_share ⟨(Nat.le_of_ble_eq_true rfl), (Nat.le_of_ble_eq_true rfl)⟩ (Nat.le_of_ble_eq_true rfl) rfl hl (fun H1 locs1 hP1 hS1 => lv_f2d B.1 B.2.1 dL_share_7 (nan_vf (f2d_vf (hnn v rfl))) (wr_retD B rfl t5 ht (fun g hg => ⟨g, rfl, fun v' h => by cases h; exact hg⟩) hP1 hS1 18 (by decide) dL_share_8 dL_share_9 dL_share_18 dL_share_19))
  | inl e0 =>
    obtain ⟨i, hi, rfl⟩ := hk
    match i, hi with
    | 0, hi =>
      cases hi
      exact wr_callX (M' := M) (As := [.int p0]) (st := [.int 0, .ref out]) B hC hX dL_share_4 ⟨vk_share, vi_share, vs_share, vn_X9, vc_share⟩ rfl vy_share ⟨(Nat.le_of_ble_eq_true rfl), (Nat.le_of_ble_eq_true rfl)⟩ (Nat.le_of_ble_eq_true rfl) rfl hl (fun H1 locs1 q ce hP1 hS1 hce hcv hcl => wr_catch B hN (k := 1) (by decide) _ ⟨f, rfl, fun v h => by cases h⟩ hP1 hS1 hce hcv hcl [] ⟨0, 9, 12, 13⟩ [⟨0, 9, 15, 52⟩] rfl (fun _ h => absurd h List.not_mem_nil) rfl (by decide) vl_13 vcast_1 (lv_astore_n b1 b2 dL_share_12 rfl hl (Nat.le_of_ble_eq_true rfl) rfl (fun ls' _ => wr_hret B ⟨f, rfl, fun v h => by cases h⟩ hP1 hS1 (by decide) dL_share_13 dL_share_14)))
    | 1, hi =>
      cases hi
      exact wr_callX (M' := M) (As := [.int p0]) (st := [.int 0, .ref out]) B hC hX dL_share_4 ⟨vk_share, vi_share, vs_share, vn_X9, vc_share⟩ rfl vy_share ⟨(Nat.le_of_ble_eq_true rfl), (Nat.le_of_ble_eq_true rfl)⟩ (Nat.le_of_ble_eq_true rfl) rfl hl (fun H1 locs1 q ce hP1 hS1 hce hcv hcl => wr_catch B hN (k := 4) (by decide) _ ⟨f, rfl, fun v h => by cases h⟩ hP1 hS1 hce hcv hcl [⟨0, 9, 12, 13⟩] ⟨0, 9, 15, 52⟩ [] rfl (List.forall_mem_cons.mpr ⟨⟨1, by decide, by decide, by decide, vl_13⟩, fun _ h => absurd h List.not_mem_nil⟩) rfl (by decide) vl_52 vcast_4 (lv_astore_n b1 b2 dL_share_15 rfl hl (Nat.le_of_ble_eq_true rfl) rfl (fun ls' _ => wr_hret B ⟨f, rfl, fun v h => by cases h⟩ hP1 hS1 (by decide) dL_share_16 dL_share_17)))
    | n + 2, hi => simp at hi
theorem cw_meanWait {Ω : Wd} (l : Launch) (hO : OkW Ω) (hX : LX Ω) (hl0 : l.stackTraces = false) (hT : ThrOk Ω) (hN : NcX Ω) (t5 : Nat) {cL : ClassId} (ht : (wT Ω)[t5]? = some (cL, .double)) {out : Nat} (ho : ∀ i, i < wN Ω → wA Ω i ≠ out) (M : Mem)  (f : Nat → UInt64) {rx : Nat ⊕ UInt64} (hf : fX9_meanWait M  = some rx) {k : Int32} (hnn : ∀ v, rx = .inr v → nn64 v = true) (hk : ResF [5] rx k) : CtW l yL_meanWait (.codeWith yL_meanWait cL_meanWait 3 (some .int) [(0, 7, 10, 123)]) 7 154 Ω out [.ref (wA Ω 0), .ref out] M (dc cL f) k M (ED cL id rx) := by
  refine wr_of [(0, .ref (wA Ω 0)), (1, .ref out)] hO ho (by decide +kernel) rfl (Nat.le_of_ble_eq_true rfl) rfl (fun p e s m below meth c B ls hl => ?_)
  have b1 := B.1
  have b2 := B.2.1
  refine lv_aload_n b1 b2 dL_meanWait_0 rfl (lv_at hl 1 rfl) ?_
  refine lv_iconst (v := 0) b1 b2 dL_meanWait_1 (by decide) ?_
  refine lv_aload_n b1 b2 dL_meanWait_2 rfl (lv_at hl 0 rfl) ?_
  have hC := c_X9_meanWait l hO hX hl0 hT M  _ hf
  cases rx with
  | inr v =>
    have hk0 : k = 0 := hk
    subst hk0
    exact wr_callR (v := some (.double v)) (M' := M) (As := []) (st := [.int 0, .ref out]) B hC hX dL_meanWait_3 ⟨vk_meanWait, vi_meanWait, vs_meanWait, vn_X9, vc_meanWait⟩ rfl vy_meanWait ⟨(Nat.le_of_ble_eq_true rfl), (Nat.le_of_ble_eq_true rfl)⟩ (Nat.le_of_ble_eq_true rfl) rfl hl (fun H1 locs1 hP1 hS1 => wr_retD B rfl t5 ht (fun g hg => ⟨g, rfl, fun v' h => by cases h; exact hg⟩) hP1 hS1 13 (by decide) dL_meanWait_6 dL_meanWait_7 dL_meanWait_13 dL_meanWait_14)
  | inl e0 =>
    obtain ⟨i, hi, rfl⟩ := hk
    match i, hi with
    | 0, hi =>
      cases hi
      exact wr_callX (M' := M) (As := []) (st := [.int 0, .ref out]) B hC hX dL_meanWait_3 ⟨vk_meanWait, vi_meanWait, vs_meanWait, vn_X9, vc_meanWait⟩ rfl vy_meanWait ⟨(Nat.le_of_ble_eq_true rfl), (Nat.le_of_ble_eq_true rfl)⟩ (Nat.le_of_ble_eq_true rfl) rfl hl (fun H1 locs1 q ce hP1 hS1 hce hcv hcl => wr_catch B hN (k := 5) (by decide) _ ⟨f, rfl, fun v h => by cases h⟩ hP1 hS1 hce hcv hcl [] ⟨0, 7, 10, 123⟩ [] rfl (fun _ h => absurd h List.not_mem_nil) rfl (by decide) vl_123 vcast_5 (lv_astore_n b1 b2 dL_meanWait_10 rfl hl (Nat.le_of_ble_eq_true rfl) rfl (fun ls' _ => wr_hret B ⟨f, rfl, fun v h => by cases h⟩ hP1 hS1 (by decide) dL_meanWait_11 dL_meanWait_12)))
    | n + 1, hi => simp at hi
section LDB
variable {p : Program} {l : Launch} {e : Env} {s : State} {m : MethodId} {below : List Frame} {meth : Method} {c : Code} {b Ls : Nat} {xs : Nat → Int32} {D : va_G} {cy : Nat → ClassId} {E ax am Ks V : Nat → Nat} {out outD t0 t1 : Nat} {Mx Mm Mx' Mm' : Mem} {xo xd : va_E} {H : Heap} {locs : List Loc} {cells slots pc i : Nat} {ls : Array Slot} {L : List (Nat × Value)} {st stk : List Value} {Q : State → Prop} {f : Nat → Int64} {g : Nat → UInt64}
theorem cs_share (K : KT p s m b Ls xs c D cy E ax am out outD) (Y : HY l D cy E ax am s Ks V t0 t1) (hi : i + 6 ≤ Ls) (hL : Ls ≤ 3072) (N : Next p l e s m b below meth c D cy E ax am out outD Q (cells + 1) (slots + 6) (i + 6)) (hc : cells + 1 ≤ 603072) (hs : slots + 6 ≤ 7211114) (I : Inv Mx Mm) (hH : LH D cy E ax am s out outD Mx Mm (lc (cy 5) f) (dc (cy 6) g) H) (hS : va_S (A0 s) s.heap H locs) (hl : lv_has ls 9 (L0 ax am b out outD i)) : W p l e room_1 s m #[Value.ref b] below meth c H locs cells slots Q (F0 m 2068 ls []) := by
  obtain ⟨rx, vm, Mm', hfx, hfm, hA, hI, hnn⟩ := st2_share I (xs (i + 1))
  refine lv_aload_n K.1 K.2.1 dL_law_2068 rfl (lv_at hl 4 rfl) ?_
  refine law_arg K hS (lv_at hl 5 rfl) (lv_at hl 0 rfl) (by omega) hL 1 (by decide) (Nat.le_of_ble_eq_true rfl) dL_law_2069 dL_law_2070 dL_law_2072 dL_law_2073 dL_law_2074 ?_
  have KS : KT p s m b Ls xs c D cy E ax am outD out := ⟨K.1, K.2.1, K.2.2.1, K.2.2.2.1, K.2.2.2.2.1, K.2.2.2.2.2.1, K.2.2.2.2.2.2.1, K.2.2.2.2.2.2.2.1, K.2.2.2.2.2.2.2.2.1, K.2.2.2.2.2.2.2.2.2.1, K.2.2.2.2.2.2.2.2.2.2.1, ⟨K.2.2.2.2.2.2.2.2.2.2.2.1, fun j hj => ⟨(K.2.2.2.2.2.2.2.2.2.2.2.2.1 j hj).2, (K.2.2.2.2.2.2.2.2.2.2.2.2.1 j hj).1⟩, fun j hj => ⟨(K.2.2.2.2.2.2.2.2.2.2.2.2.2.1 j hj).2, (K.2.2.2.2.2.2.2.2.2.2.2.2.2.1 j hj).1⟩, fun h => K.2.2.2.2.2.2.2.2.2.2.2.2.2.2.1 h.symm, K.2.2.2.2.2.2.2.2.2.2.2.2.2.2.2.1, K.2.2.2.2.2.2.2.2.2.2.2.2.2.2.2.2.1, K.2.2.2.2.2.2.2.2.2.2.2.2.2.2.2.2.2.2, K.2.2.2.2.2.2.2.2.2.2.2.2.2.2.2.2.2.1⟩⟩
  refine lv_aload K.1 K.2.1 dL_law_2075 (lv_at hl 1 rfl) ?_
  refine law_wcall KS (cw_share l K.2.2.2.2.2.2.2.2.2.1 (WX_LX D cy E ax s) Y.1 Y.2.1 Y.2.2.1 6 rfl (fun j hj => (K.2.2.2.2.2.2.2.2.2.2.2.2.1 j hj).2) Mx (xs (i + 1)) g hfx hnn (resf hA)) dL_law_2077 us_share vw_share ⟨(Nat.le_of_ble_eq_true rfl), (Nat.le_of_ble_eq_true rfl)⟩ (Nat.le_of_ble_eq_true rfl) rfl hl hS ⟨hH.1, hH.2.1, hH.2.2.2, hH.2.2.1⟩ hc hs (fun H1 locs1 xd1 hE hH1 hS1 => ?_)
  obtain ⟨g1, rfl, hg1⟩ := hE
  refine lv_istore (lv' := (6, .int (Mm' 0 0)) :: L0 ax am b out outD i) K.1 K.2.1 dL_law_2080 hl (Nat.le_of_ble_eq_true rfl) rfl (fun ls1 hl1 => ?_)
  refine lv_aload_n K.1 K.2.1 dL_law_2082 rfl (lv_at hl1 4 rfl) ?_
  refine law_arg K hS1 (lv_at hl1 6 rfl) (lv_at hl1 1 rfl) (by omega) hL 1 (by decide) (Nat.le_of_ble_eq_true rfl) dL_law_2083 dL_law_2084 dL_law_2086 dL_law_2087 dL_law_2088 ?_
  refine law_mcall K (v := some (.float vm)) (Mm' := Mm') (av := [.int (xs (i + 1))]) (st := []) (c_X10_share l K.2.2.2.2.2.2.2.2.2.2.1 (WM_LM D cy am s) Mm (xs (i + 1)) _ hfm) dL_law_2089 uv_X10_share rfl vz_X10_share ⟨(Nat.le_of_ble_eq_true rfl), (Nat.le_of_ble_eq_true rfl)⟩ (Nat.le_of_ble_eq_true rfl) rfl hl1 hS1 ⟨hH1.1, hH1.2.1, hH1.2.2.2, hH1.2.2.1⟩ hc hs (fun H2 locs2 hH2 hS2 => ?_)
  refine lv_fstore (lv' := (7, .float vm) :: (6, .int (Mm' 0 0)) :: L0 ax am b out outD i) K.1 K.2.1 dL_law_2092 hl1 (Nat.le_of_ble_eq_true rfl) rfl (fun ls2 hl2 => ?_)
  refine lv_aload_n K.1 K.2.1 dL_law_2094 rfl (lv_at hl2 5 rfl) ?_
  refine law_mcall K (v := some (.int (Mm' 0 0))) (Mm' := Mm') (av := []) (st := []) (c_X10_thrown l K.2.2.2.2.2.2.2.2.2.2.1 (WM_LM D cy am s) Mm' _ rfl) dL_law_2095 ut_thrown rfl vy_thrown ⟨(Nat.le_of_ble_eq_true rfl), (Nat.le_of_ble_eq_true rfl)⟩ (Nat.le_of_ble_eq_true rfl) rfl hl2 hS2 hH2 hc hs (fun H3 locs3 hH3 hS3 => ?_)
  refine lv_iload K.1 K.2.1 dL_law_2098 (lv_at hl2 1 rfl) ?_
  refine lv_icmp_eq (tgt := 2105) K.1 K.2.1 dL_law_2100 (by decide) (fun _ => ?_) (fun h => absurd rfl h)
  have fin : W p l e room_1 s m #[Value.ref b] below meth c H3 locs3 (cells + 1) (slots + 6) Q (F0 m 2143 ls2 []) := by
    refine lv_goto (tgt := 2989) K.1 K.2.1 dL_law_2143 (by decide) ?_
    exact law_end K N hI hH3 hS3 (lv_sub hl2 [2, 3, 4, 5, 6, 7] rfl)
  refine lv_iload K.1 K.2.1 dL_law_2105 (lv_at hl2 1 rfl) ?_
  refine lv_if_ne (tgt := 2143) K.1 K.2.1 dL_law_2107 (by decide) (fun _ => fin) (fun h0 => ?_)
  obtain ⟨v, hrx, hv⟩ : ∃ v, rx = .inr v ∧ vm = v := by
    cases rx with
    | inr v => exact ⟨v, rfl, hA.2⟩
    | inl e0 =>
      obtain ⟨j, hj, h1⟩ := hA
      exfalso
      have hj6 : j < 2 := Nat.lt_of_lt_of_le (List.getElem?_eq_some_iff.mp hj).1 (by decide)
      rw [h1] at h0
      rcases (show j = 0 ∨ j = 1 by omega) with rfl | rfl <;> exact absurd h0 (by decide)
  have hf := hg1 v hrx
  have hn := hnn v hrx
  refine lv_aload K.1 K.2.1 dL_law_2110 (lv_at hl2 3 rfl) ?_
  refine lv_iconst (v := 0) K.1 K.2.1 dL_law_2112 (by decide) ?_
  refine va_dald K.1 K.2.1 K.2.2.2.2.2.1 (ws := [(outD, dc (cy 6) g1)]) (fun k q hq => ?_) 0 6 rfl rfl (inb_in (by decide)) dL_law_2113 ?_
  · have hz : k < 1 := (List.getElem?_eq_some_iff.mp hq).1
    rw [show k = 0 by omega] at hq
    cases hq
    exact hH3.2.2.2
  refine lv_fload K.1 K.2.1 dL_law_2114 (lv_at hl2 0 rfl) ?_
  refine lv_f2d K.1 K.2.1 dL_law_2116 (nan_vf (f2d_vf (by rw [hv]; exact hn))) ?_
  refine lv_dcmp K.1 K.2.1 dL_law_2117 ?_
  refine lv_if_eq (tgt := 2143) K.1 K.2.1 dL_law_2118 (by decide) (fun _ => fin) (fun h => absurd ?_ h)
  show Op.cmpValue (FP.dcmp (g1 0) (FP.f2d vm)) _ = 0
  rw [hf, hv]
  exact dcmp0 (f2d_vf hn) _
theorem cs_meanWait (K : KT p s m b Ls xs c D cy E ax am out outD) (Y : HY l D cy E ax am s Ks V t0 t1) (hi : i + 6 ≤ Ls) (hL : Ls ≤ 3072) (N : Next p l e s m b below meth c D cy E ax am out outD Q (cells + 1) (slots + 6) (i + 6)) (hc : cells + 1 ≤ 603072) (hs : slots + 6 ≤ 7211114) (I : Inv Mx Mm) (hH : LH D cy E ax am s out outD Mx Mm (lc (cy 5) f) (dc (cy 6) g) H) (hS : va_S (A0 s) s.heap H locs) (hl : lv_has ls 9 (L0 ax am b out outD i)) : W p l e room_1 s m #[Value.ref b] below meth c H locs cells slots Q (F0 m 2598 ls []) := by
  obtain ⟨rx, vm, Mm', hfx, hfm, hA, hI, hnn⟩ := st2_meanWait I 
  refine lv_aload_n K.1 K.2.1 dL_law_2598 rfl (lv_at hl 4 rfl) ?_
  have KS : KT p s m b Ls xs c D cy E ax am outD out := ⟨K.1, K.2.1, K.2.2.1, K.2.2.2.1, K.2.2.2.2.1, K.2.2.2.2.2.1, K.2.2.2.2.2.2.1, K.2.2.2.2.2.2.2.1, K.2.2.2.2.2.2.2.2.1, K.2.2.2.2.2.2.2.2.2.1, K.2.2.2.2.2.2.2.2.2.2.1, ⟨K.2.2.2.2.2.2.2.2.2.2.2.1, fun j hj => ⟨(K.2.2.2.2.2.2.2.2.2.2.2.2.1 j hj).2, (K.2.2.2.2.2.2.2.2.2.2.2.2.1 j hj).1⟩, fun j hj => ⟨(K.2.2.2.2.2.2.2.2.2.2.2.2.2.1 j hj).2, (K.2.2.2.2.2.2.2.2.2.2.2.2.2.1 j hj).1⟩, fun h => K.2.2.2.2.2.2.2.2.2.2.2.2.2.2.1 h.symm, K.2.2.2.2.2.2.2.2.2.2.2.2.2.2.2.1, K.2.2.2.2.2.2.2.2.2.2.2.2.2.2.2.2.1, K.2.2.2.2.2.2.2.2.2.2.2.2.2.2.2.2.2.2, K.2.2.2.2.2.2.2.2.2.2.2.2.2.2.2.2.2.1⟩⟩
  refine lv_aload K.1 K.2.1 dL_law_2599 (lv_at hl 1 rfl) ?_
  refine law_wcall KS (cw_meanWait l K.2.2.2.2.2.2.2.2.2.1 (WX_LX D cy E ax s) Y.1 Y.2.1 Y.2.2.1 6 rfl (fun j hj => (K.2.2.2.2.2.2.2.2.2.2.2.2.1 j hj).2) Mx  g hfx hnn (resf hA)) dL_law_2601 us_meanWait vw_meanWait ⟨(Nat.le_of_ble_eq_true rfl), (Nat.le_of_ble_eq_true rfl)⟩ (Nat.le_of_ble_eq_true rfl) rfl hl hS ⟨hH.1, hH.2.1, hH.2.2.2, hH.2.2.1⟩ hc hs (fun H1 locs1 xd1 hE hH1 hS1 => ?_)
  obtain ⟨g1, rfl, hg1⟩ := hE
  refine lv_istore (lv' := (6, .int (Mm' 0 0)) :: L0 ax am b out outD i) K.1 K.2.1 dL_law_2604 hl (Nat.le_of_ble_eq_true rfl) rfl (fun ls1 hl1 => ?_)
  refine lv_aload_n K.1 K.2.1 dL_law_2606 rfl (lv_at hl1 4 rfl) ?_
  refine law_mcall K (v := some (.double vm)) (Mm' := Mm') (av := []) (st := []) (c_X10_meanWait l K.2.2.2.2.2.2.2.2.2.2.1 (WM_LM D cy am s) Mm  _ hfm) dL_law_2607 uv_X10_meanWait rfl vz_X10_meanWait ⟨(Nat.le_of_ble_eq_true rfl), (Nat.le_of_ble_eq_true rfl)⟩ (Nat.le_of_ble_eq_true rfl) rfl hl1 hS1 ⟨hH1.1, hH1.2.1, hH1.2.2.2, hH1.2.2.1⟩ hc hs (fun H2 locs2 hH2 hS2 => ?_)
  refine lv_dstore (lv' := (7, .double vm) :: (6, .int (Mm' 0 0)) :: L0 ax am b out outD i) K.1 K.2.1 dL_law_2610 hl1 (Nat.le_of_ble_eq_true rfl) rfl (fun ls2 hl2 => ?_)
  refine lv_aload_n K.1 K.2.1 dL_law_2612 rfl (lv_at hl2 5 rfl) ?_
  refine law_mcall K (v := some (.int (Mm' 0 0))) (Mm' := Mm') (av := []) (st := []) (c_X10_thrown l K.2.2.2.2.2.2.2.2.2.2.1 (WM_LM D cy am s) Mm' _ rfl) dL_law_2613 ut_thrown rfl vy_thrown ⟨(Nat.le_of_ble_eq_true rfl), (Nat.le_of_ble_eq_true rfl)⟩ (Nat.le_of_ble_eq_true rfl) rfl hl2 hS2 hH2 hc hs (fun H3 locs3 hH3 hS3 => ?_)
  refine lv_iload K.1 K.2.1 dL_law_2616 (lv_at hl2 1 rfl) ?_
  refine lv_icmp_eq (tgt := 2623) K.1 K.2.1 dL_law_2618 (by decide) (fun _ => ?_) (fun h => absurd rfl h)
  have fin : W p l e room_1 s m #[Value.ref b] below meth c H3 locs3 (cells + 1) (slots + 6) Q (F0 m 2660 ls2 []) := by
    refine lv_goto (tgt := 2989) K.1 K.2.1 dL_law_2660 (by decide) ?_
    exact law_end K N hI hH3 hS3 (lv_sub hl2 [2, 3, 4, 5, 6, 7] rfl)
  refine lv_iload K.1 K.2.1 dL_law_2623 (lv_at hl2 1 rfl) ?_
  refine lv_if_ne (tgt := 2660) K.1 K.2.1 dL_law_2625 (by decide) (fun _ => fin) (fun h0 => ?_)
  obtain ⟨v, hrx, hv⟩ : ∃ v, rx = .inr v ∧ vm = v := by
    cases rx with
    | inr v => exact ⟨v, rfl, hA.2⟩
    | inl e0 =>
      obtain ⟨j, hj, h1⟩ := hA
      exfalso
      have hj6 : j < 2 := Nat.lt_of_lt_of_le (List.getElem?_eq_some_iff.mp hj).1 (by decide)
      rw [h1] at h0
      rcases (show j = 0 ∨ j = 1 by omega) with rfl | rfl <;> exact absurd h0 (by decide)
  have hf := hg1 v hrx
  have hn := hnn v hrx
  refine lv_aload K.1 K.2.1 dL_law_2628 (lv_at hl2 3 rfl) ?_
  refine lv_iconst (v := 0) K.1 K.2.1 dL_law_2630 (by decide) ?_
  refine va_dald K.1 K.2.1 K.2.2.2.2.2.1 (ws := [(outD, dc (cy 6) g1)]) (fun k q hq => ?_) 0 6 rfl rfl (inb_in (by decide)) dL_law_2631 ?_
  · have hz : k < 1 := (List.getElem?_eq_some_iff.mp hq).1
    rw [show k = 0 by omega] at hq
    cases hq
    exact hH3.2.2.2
  refine lv_dload K.1 K.2.1 dL_law_2632 (lv_at hl2 0 rfl) ?_
  refine lv_dcmp K.1 K.2.1 dL_law_2634 ?_
  refine lv_if_eq (tgt := 2660) K.1 K.2.1 dL_law_2635 (by decide) (fun _ => fin) (fun h => absurd ?_ h)
  show Op.cmpValue (FP.dcmp (g1 0) vm) _ = 0
  rw [hf, hv]
  exact dcmp0 (nan64 hn) _
end LDB
