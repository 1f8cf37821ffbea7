def fX9_isWithin (M : Mem) (p0 : Int32) (p1 : Int32) (p2 : Int32) : Option Int32 := jn (fun (a1 : Int32) => grd (isb a1) (some a1)) (fun k2 => jn (fun (a3 : Unit) => k2 0) (fun k4 => if p0 < p1 then (k4 ()) else (if p2 < p0 then (k4 ()) else (k2 1))))
set_option maxRecDepth 100000 in
set_option maxHeartbeats 4000000 in
theorem c_X9_isWithin {Ω : Wd} (l : Launch) (hO : OkW Ω)  (M : Mem) (p0 : Int32) (p1 : Int32) (p2 : Int32) : ∀ r, fX9_isWithin M p0 p1 p2 = some r → Ct l yX9_isWithin (.code yX9_isWithin cX9_isWithin 3 (some .boolean)) 0 0 Ω [.int p0, .int p1, .int p2] M ((cpI M) r) := by
  refine ofG [(0, .int p0), (1, .int p1), (2, .int p2)] hO (by decide) rfl (Nat.le_of_ble_eq_true rfl) rfl ?_
  intro p e s m args below meth c
  unfold fX9_isWithin
  refine g_iload_n 0 rfl rfl 1 rfl dX9_isWithin_0 ?_
  refine g_iload_n 1 rfl rfl 2 rfl dX9_isWithin_1 ?_
  refine g_join 15 (fun a1 => []) (fun a1 => [.int a1]) (fun a1 => M) ?_ ?_
  · intro a1
    exact p_bret rfl dX9_isWithin_15
  · intro k2 hk2
    refine g_join 14 (fun a3 => []) (fun a3 => []) (fun a3 => M) ?_ ?_
    · intro a3
      refine g_iconst 0 15 rfl dX9_isWithin_14 (by decide) ?_
      exact hk2 0
    · intro k4 hk4
      refine g_icmp_lt 14 (by decide) 5 rfl dX9_isWithin_2 ?_ ?_
      · refine g_sub [] [] rfl ?_
        exact hk4 ()
      · refine g_iload_n 0 rfl rfl 6 rfl dX9_isWithin_5 ?_
        refine g_iload_n 2 rfl rfl 7 rfl dX9_isWithin_6 ?_
        refine g_icmp_gt 14 (by decide) 10 rfl dX9_isWithin_7 ?_ ?_
        · refine g_sub [] [] rfl ?_
          exact hk4 ()
        · refine g_iconst 1 11 rfl dX9_isWithin_10 (by decide) ?_
          refine g_goto 15 (by decide) dX9_isWithin_11 ?_
          refine g_sub [] [] rfl ?_
          exact hk2 1
def fX9_raise (M : Mem) (p0 : Int32) : Option (Nat ⊕ Unit) := if p0 = 1 then (some (.inl 0)) else (if p0 = 2 then (some (.inl 1)) else (if p0 = 3 then (some (.inl 2)) else (if p0 = 4 then (some (.inl 3)) else (if p0 = 5 then (some (.inl 4)) else (some (.inr ()))))))
set_option maxRecDepth 100000 in
set_option maxHeartbeats 4000000 in
theorem c_X9_raise {Ω : Wd} (l : Launch) (hO : OkW Ω) (hl0 : l.stackTraces = false) (hT : ThrOk Ω)  (M : Mem) (p0 : Int32) : ∀ r, fX9_raise M p0 = some r → Ct l yX9_raise (.code yX9_raise cX9_raise 1 none) 6 120 Ω [.int p0] M ((cpVX M) r) := by
  refine ofG [(0, .int p0)] hO (by decide) rfl (Nat.le_of_ble_eq_true rfl) rfl ?_
  intro p e s m args below meth c
  unfold fX9_raise
  refine g_iload_n 0 rfl rfl 1 rfl dX9_raise_0 ?_
  refine g_case ?_ ?_
  · intro h1_0
    refine g_tin (off := 35) 36 (by rw [h1_0]; decide) (by rw [h1_0]; decide) (by rw [h1_0]; rfl) (by decide) dX9_raise_1 ?_
    exact g_throwW hl0 hT 0 411 416 415 "there is no such part or index" xNm xf_0 xNm_ok wj_X9_411 wxi_0 (List.mem_of_getElem? (i := 0) rfl) xa_0 xg_0 dX9_raise_36 dX9_raise_39 dX9_raise_40 dX9_raise_43 dX9_raise_46 (by decide) (Nat.le_of_ble_eq_true rfl) rfl
  · intro h1_0
    refine g_case ?_ ?_
    · intro h1_1
      refine g_tin (off := 46) 47 (by rw [h1_1]; decide) (by rw [h1_1]; decide) (by rw [h1_1]; rfl) (by decide) dX9_raise_1 ?_
      exact g_throwW hl0 hT 1 148 418 152 "an argument or the text is not a valid one" xNm xf_1 xNm_ok wj_X9_148 wxi_1 (List.mem_of_getElem? (i := 1) rfl) xa_1 xg_1 dX9_raise_47 dX9_raise_50 dX9_raise_51 dX9_raise_54 dX9_raise_57 (by decide) (Nat.le_of_ble_eq_true rfl) rfl
    · intro h1_1
      refine g_case ?_ ?_
      · intro h1_2
        refine g_tin (off := 57) 58 (by rw [h1_2]; decide) (by rw [h1_2]; decide) (by rw [h1_2]; rfl) (by decide) dX9_raise_1 ?_
        exact g_throwW hl0 hT 2 355 420 359 "this is not possible in the present state" xNm xf_2 xNm_ok wj_X9_355 wxi_2 (List.mem_of_getElem? (i := 2) rfl) xa_2 xg_2 dX9_raise_58 dX9_raise_61 dX9_raise_62 dX9_raise_65 dX9_raise_68 (by decide) (Nat.le_of_ble_eq_true rfl) rfl
      · intro h1_2
        refine g_case ?_ ?_
        · intro h1_3
          refine g_tin (off := 68) 69 (by rw [h1_3]; decide) (by rw [h1_3]; decide) (by rw [h1_3]; rfl) (by decide) dX9_raise_1 ?_
          exact g_throwW hl0 hT 3 422 424 426 "this is refused, and the reason is kept" xNm xf_3 xNm_ok wj_X9_422 wxi_3 (List.mem_of_getElem? (i := 3) rfl) xa_3 xg_3 dX9_raise_69 dX9_raise_72 dX9_raise_73 dX9_raise_76 dX9_raise_79 (by decide) (Nat.le_of_ble_eq_true rfl) rfl
        · intro h1_3
          refine g_case ?_ ?_
          · intro h1_4
            refine g_tin (off := 79) 80 (by rw [h1_4]; decide) (by rw [h1_4]; decide) (by rw [h1_4]; rfl) (by decide) dX9_raise_1 ?_
            exact g_throwN hl0 hT 429 "there is nothing of this kind" (List.mem_of_getElem? (i := 4) rfl) rfl dX9_raise_80 dX9_raise_83 dX9_raise_84 dX9_raise_87 dX9_raise_90 (by decide) (Nat.le_of_ble_eq_true rfl) rfl
          · intro h1_4
            refine g_tout 91 (ts_out (fun z h1 h2 e => by have q0 := ts_ne (z := 1) h1_0 (by decide); have q1 := ts_ne (z := 2) h1_1 (by decide); have q2 := ts_ne (z := 3) h1_2 (by decide); have q3 := ts_ne (z := 4) h1_3 (by decide); have q4 := ts_ne (z := 5) h1_4 (by decide); omega)) (by decide) dX9_raise_1 ?_
            exact p_vretX rfl dX9_raise_91
def fX9_wrap (M : Mem) (p0 : Int32) (p1 : Int32) : Option Int32 := if 1 ≤ p1 then (grd (nz p1) (bnd (p0 - p0 / p1 * p1) (fun x1 => jn (fun (a2 : Int32) => some a2) (fun k3 => if 0 ≤ x1 then (k3 x1) else (k3 (x1 + p1)))))) else (some 0)
set_option maxRecDepth 100000 in
set_option maxHeartbeats 4000000 in
theorem c_X9_wrap {Ω : Wd} (l : Launch) (hO : OkW Ω)  (M : Mem) (p0 : Int32) (p1 : Int32) : ∀ r, fX9_wrap M p0 p1 = some r → Ct l yX9_wrap (.code yX9_wrap cX9_wrap 3 (some .int)) 0 0 Ω [.int p0, .int p1] M ((cpI M) r) := by
  refine ofG [(0, .int p0), (1, .int p1)] hO (by decide) rfl (Nat.le_of_ble_eq_true rfl) rfl ?_
  intro p e s m args below meth c
  unfold fX9_wrap
  refine g_iload_n 1 rfl rfl 1 rfl dX9_wrap_0 ?_
  refine g_iconst 1 2 rfl dX9_wrap_1 (by decide) ?_
  refine g_icmp_ge 7 (by decide) 5 rfl dX9_wrap_2 ?_ ?_
  · refine g_iload_n 0 rfl rfl 8 rfl dX9_wrap_7 ?_
    refine g_iload_n 1 rfl rfl 9 rfl dX9_wrap_8 ?_
    refine g_irem 10 rfl dX9_wrap_9 ?_
    refine g_istore_n (fun x1 => [(2, .int x1), (0, .int p0), (1, .int p1)]) rfl 11 rfl dX9_wrap_10 (by decide) (fun _ => rfl) ?_
    intro x1
    refine g_iload_n 0 rfl rfl 12 rfl dX9_wrap_11 ?_
    refine g_join 22 (fun a2 => []) (fun a2 => [.int a2]) (fun a2 => M) ?_ ?_
    · intro a2
      exact p_iret rfl dX9_wrap_22
    · intro k3 hk3
      refine g_if_ge 21 (by decide) 15 rfl dX9_wrap_12 ?_ ?_
      · refine g_iload_n 0 rfl rfl 22 rfl dX9_wrap_21 ?_
        refine g_sub [] [] rfl ?_
        exact hk3 x1
      · refine g_iload_n 0 rfl rfl 16 rfl dX9_wrap_15 ?_
        refine g_iload_n 2 rfl rfl 17 rfl dX9_wrap_16 ?_
        refine g_iadd 18 rfl dX9_wrap_17 ?_
        refine g_goto 22 (by decide) dX9_wrap_18 ?_
        refine g_sub [] [] rfl ?_
        exact hk3 (x1 + p1)
  · refine g_iconst 0 6 rfl dX9_wrap_5 (by decide) ?_
    exact p_iret rfl dX9_wrap_6
def fX9_gap (M : Mem) (p0 : Int32) (p1 : Int32) (p2 : Int32) (p3 : Int32) : Option Int32 := clp (fX9_wrap M ((p2 - p0) - p1) p3) (fun x1 => some x1)
set_option maxRecDepth 100000 in
set_option maxHeartbeats 4000000 in
theorem c_X9_gap {Ω : Wd} (l : Launch) (hO : OkW Ω)  (M : Mem) (p0 : Int32) (p1 : Int32) (p2 : Int32) (p3 : Int32) : ∀ r, fX9_gap M p0 p1 p2 p3 = some r → Ct l yX9_gap (.code yX9_gap cX9_gap 4 (some .int)) 1 22 Ω [.int p0, .int p1, .int p2, .int p3] M ((cpI M) r) := by
  refine ofG [(0, .int p0), (1, .int p1), (2, .int p2), (3, .int p3)] hO (by decide) rfl (Nat.le_of_ble_eq_true rfl) rfl ?_
  intro p e s m args below meth c
  unfold fX9_gap
  refine g_iload_n 2 rfl rfl 1 rfl dX9_gap_0 ?_
  refine g_iload_n 0 rfl rfl 2 rfl dX9_gap_1 ?_
  refine g_isub 3 rfl dX9_gap_2 ?_
  refine g_iload_n 1 rfl rfl 4 rfl dX9_gap_3 ?_
  refine g_isub 5 rfl dX9_gap_4 ?_
  refine g_iload_n 3 rfl rfl 6 rfl dX9_gap_5 ?_
  refine p_cSI [.int ((p2 - p0) - p1), .int p3] [] (c_X9_wrap l hO M ((p2 - p0) - p1) p3) dX9_gap_6 us_X9_432 rfl yk_X9_wrap ⟨by decide, by decide⟩ (Nat.le_of_ble_eq_true rfl) rfl 9 rfl ?_
  intro x1
  exact p_iret rfl dX9_gap_9
def fX9_bitsOfShare_L1 (k2 : (UInt32 × Int32) → Option Int32) (k4 : (UInt32 × Int32) → Option Int32) (a3 : UInt32 × Int32) : Option Int32 := if 0 ≤ Op.cmpValue (FP.fcmp a3.1 FP.fconst1) .g then (k2 (a3.1, a3.2)) else (if a3.2 ≤ 1 then (k2 (a3.1, a3.2)) else (grd (nn32 (FP.fmul a3.1 FP.fconst2)) (bnd (FP.fmul a3.1 FP.fconst2) (fun x5 => bnd (a3.2 + (-1)) (fun x6 => k4 (x5, x6))))))
def fX9_bitsOfShare (M : Mem) (p0 : UInt32) : Option Int32 := if 0 < Op.cmpValue (FP.fcmp p0 FP.fconst0) .l then (jn (fun (a1 : UInt32 × Int32) => grd (nn32 (FP.fmul a1.1 (FP.i2f 8388608))) (some (((a1.2 <<< (23 &&& 31)) + (FP.f2i (FP.fmul a1.1 (FP.i2f 8388608)))) - 8388608))) (fun k2 => lp (fX9_bitsOfShare_L1 k2) FU (p0, 127))) else (some 0)
set_option maxRecDepth 100000 in
set_option maxHeartbeats 4000000 in
theorem c_X9_bitsOfShare {Ω : Wd} (l : Launch) (hO : OkW Ω)  (M : Mem) (p0 : UInt32) : ∀ r, fX9_bitsOfShare M p0 = some r → Ct l yX9_bitsOfShare (.code yX9_bitsOfShare cX9_bitsOfShare 4 (some .int)) 0 0 Ω [.float p0] M ((cpI M) r) := by
  refine ofG [(0, .float p0)] hO (by decide) rfl (Nat.le_of_ble_eq_true rfl) rfl ?_
  intro p e s m args below meth c
  unfold fX9_bitsOfShare
  refine g_fload_n 0 rfl rfl 1 rfl dX9_bitsOfShare_0 ?_
  refine f_fconst0 2 rfl dX9_bitsOfShare_1 ?_
  refine f_fcmp 3 rfl dX9_bitsOfShare_2 ?_
  refine g_if_gt 8 (by decide) 6 rfl dX9_bitsOfShare_3 ?_ ?_
  · refine g_fload_n 0 rfl rfl 9 rfl dX9_bitsOfShare_8 ?_
    refine g_fstore_nA [(1, .float p0), (0, .float p0)] rfl 10 rfl dX9_bitsOfShare_9 (by decide) rfl ?_
    refine g_bipush 127 12 rfl dX9_bitsOfShare_10 (by decide) ?_
    refine g_istore_nA [(2, .int 127), (1, .float p0), (0, .float p0)] rfl 13 rfl dX9_bitsOfShare_12 (by decide) rfl ?_
    refine g_join 34 (fun a1 => [(1, .float a1.1), (2, .int a1.2)]) (fun a1 => []) (fun a1 => M) ?_ ?_
    · intro a1
      refine g_ldc_w 8388608 wq_X9_443 37 rfl dX9_bitsOfShare_34 ?_
      refine g_istore_nA [(3, .int 8388608), (1, .float a1.1), (2, .int a1.2)] rfl 38 rfl dX9_bitsOfShare_37 (by decide) rfl ?_
      refine g_iload_n 2 rfl rfl 39 rfl dX9_bitsOfShare_38 ?_
      refine g_bipush 23 41 rfl dX9_bitsOfShare_39 (by decide) ?_
      refine g_ishl 42 rfl dX9_bitsOfShare_41 ?_
      refine g_fload_n 1 rfl rfl 43 rfl dX9_bitsOfShare_42 ?_
      refine g_iload_n 0 rfl rfl 44 rfl dX9_bitsOfShare_43 ?_
      refine f_i2f 45 rfl dX9_bitsOfShare_44 ?_
      refine f_fmul 46 rfl dX9_bitsOfShare_45 ?_
      refine f_f2i 47 rfl dX9_bitsOfShare_46 ?_
      refine g_iadd 48 rfl dX9_bitsOfShare_47 ?_
      refine g_iload_n 0 rfl rfl 49 rfl dX9_bitsOfShare_48 ?_
      refine g_isub 50 rfl dX9_bitsOfShare_49 ?_
      exact p_iret rfl dX9_bitsOfShare_50
    · intro k2 hk2
      refine g_sub [(1, .float p0), (2, .int 127)] [1, 0] rfl ?_
      refine g_loop 13 (fun a3 => [(1, .float a3.1), (2, .int a3.2)]) (fun _ => []) (fun a3 => M) ?_ FU (p0, 127)
      intro k4 hk4 a3
      unfold fX9_bitsOfShare_L1
      refine g_fload_n 0 rfl rfl 14 rfl dX9_bitsOfShare_13 ?_
      refine f_fconst1 15 rfl dX9_bitsOfShare_14 ?_
      refine f_fcmp 16 rfl dX9_bitsOfShare_15 ?_
      refine g_if_ge 34 (by decide) 19 rfl dX9_bitsOfShare_16 ?_ ?_
      · exact hk2 (a3.1, a3.2)
      · refine g_iload_n 1 rfl rfl 20 rfl dX9_bitsOfShare_19 ?_
        refine g_iconst 1 21 rfl dX9_bitsOfShare_20 (by decide) ?_
        refine g_icmp_le 34 (by decide) 24 rfl dX9_bitsOfShare_21 ?_ ?_
        · exact hk2 (a3.1, a3.2)
        · refine g_fload_n 0 rfl rfl 25 rfl dX9_bitsOfShare_24 ?_
          refine f_fconst2 26 rfl dX9_bitsOfShare_25 ?_
          refine f_fmul 27 rfl dX9_bitsOfShare_26 ?_
          refine g_fstore_n (fun x5 => [(1, .float x5), (2, .int a3.2)]) rfl 28 rfl dX9_bitsOfShare_27 (by decide) (fun _ => rfl) ?_
          intro x5
          refine g_iinc 1 rfl (-1) (by decide) (fun x6 => [(2, .int x6), (1, .float x5)]) 31 rfl dX9_bitsOfShare_28 (by decide) (fun _ => rfl) ?_
          intro x6
          refine g_goto 13 (by decide) dX9_bitsOfShare_31 ?_
          refine g_sub [(1, .float x5), (2, .int x6)] [1, 0] rfl ?_
          exact hk4 (x5, x6)
  · refine g_iconst 0 7 rfl dX9_bitsOfShare_6 (by decide) ?_
    exact p_iret rfl dX9_bitsOfShare_7
def fX9_isPlan (M : Mem) (p0 : Int32) : Option Int32 := clp (fX9_isWithin M p0 0 1) (fun x1 => grd (isb x1) (some x1))
set_option maxRecDepth 100000 in
set_option maxHeartbeats 4000000 in
theorem c_X9_isPlan {Ω : Wd} (l : Launch) (hO : OkW Ω)  (M : Mem) (p0 : Int32) : ∀ r, fX9_isPlan M p0 = some r → Ct l yX9_isPlan (.code yX9_isPlan cX9_isPlan 1 (some .boolean)) 1 22 Ω [.int p0] M ((cpI M) r) := by
  refine ofG [(0, .int p0)] hO (by decide) rfl (Nat.le_of_ble_eq_true rfl) rfl ?_
  intro p e s m args below meth c
  unfold fX9_isPlan
  refine g_iload_n 0 rfl rfl 1 rfl dX9_isPlan_0 ?_
  refine g_iconst 0 2 rfl dX9_isPlan_1 (by decide) ?_
  refine g_iconst 1 3 rfl dX9_isPlan_2 (by decide) ?_
  refine p_cSI [.int p0, .int 0, .int 1] [] (c_X9_isWithin l hO M p0 0 1) dX9_isPlan_3 us_X9_64 rfl yk_X9_isWithin ⟨by decide, by decide⟩ (Nat.le_of_ble_eq_true rfl) rfl 6 rfl ?_
  intro x1
  exact p_bret rfl dX9_isPlan_6
def fX9_isDirection (M : Mem) (p0 : Int32) : Option Int32 := clp (fX9_isWithin M p0 0 1) (fun x1 => grd (isb x1) (some x1))
set_option maxRecDepth 100000 in
set_option maxHeartbeats 4000000 in
theorem c_X9_isDirection {Ω : Wd} (l : Launch) (hO : OkW Ω)  (M : Mem) (p0 : Int32) : ∀ r, fX9_isDirection M p0 = some r → Ct l yX9_isDirection (.code yX9_isDirection cX9_isDirection 1 (some .boolean)) 1 22 Ω [.int p0] M ((cpI M) r) := by
  refine ofG [(0, .int p0)] hO (by decide) rfl (Nat.le_of_ble_eq_true rfl) rfl ?_
  intro p e s m args below meth c
  unfold fX9_isDirection
  refine g_iload_n 0 rfl rfl 1 rfl dX9_isDirection_0 ?_
  refine g_iconst 0 2 rfl dX9_isDirection_1 (by decide) ?_
  refine g_iconst 1 3 rfl dX9_isDirection_2 (by decide) ?_
  refine p_cSI [.int p0, .int 0, .int 1] [] (c_X9_isWithin l hO M p0 0 1) dX9_isDirection_3 us_X9_64 rfl yk_X9_isWithin ⟨by decide, by decide⟩ (Nat.le_of_ble_eq_true rfl) rfl 6 rfl ?_
  intro x1
  exact p_bret rfl dX9_isDirection_6
def fX9_isClearance (M : Mem) (p0 : Int32) : Option Int32 := clp (fX9_isWithin M p0 0 20) (fun x1 => grd (isb x1) (some x1))
set_option maxRecDepth 100000 in
set_option maxHeartbeats 4000000 in
theorem c_X9_isClearance {Ω : Wd} (l : Launch) (hO : OkW Ω)  (M : Mem) (p0 : Int32) : ∀ r, fX9_isClearance M p0 = some r → Ct l yX9_isClearance (.code yX9_isClearance cX9_isClearance 1 (some .boolean)) 1 22 Ω [.int p0] M ((cpI M) r) := by
  refine ofG [(0, .int p0)] hO (by decide) rfl (Nat.le_of_ble_eq_true rfl) rfl ?_
  intro p e s m args below meth c
  unfold fX9_isClearance
  refine g_iload_n 0 rfl rfl 1 rfl dX9_isClearance_0 ?_
  refine g_iconst 0 2 rfl dX9_isClearance_1 (by decide) ?_
  refine g_bipush 20 4 rfl dX9_isClearance_2 (by decide) ?_
  refine p_cSI [.int p0, .int 0, .int 20] [] (c_X9_isWithin l hO M p0 0 20) dX9_isClearance_4 us_X9_64 rfl yk_X9_isWithin ⟨by decide, by decide⟩ (Nat.le_of_ble_eq_true rfl) rfl 7 rfl ?_
  intro x1
  exact p_bret rfl dX9_isClearance_7
def fX9_need (M : Mem) (p0 : Int32) (p1 : Int32) : Option (Nat ⊕ Unit) := jn (fun (a1 : Unit) => some (.inr ())) (fun k2 => if p0 = 0 then (clpx (fX9_raise M p1) (fun u3 => k2 ())) else (k2 ()))
set_option maxRecDepth 100000 in
set_option maxHeartbeats 4000000 in
theorem c_X9_need {Ω : Wd} (l : Launch) (hO : OkW Ω) (hl0 : l.stackTraces = false) (hT : ThrOk Ω)  (M : Mem) (p0 : Int32) (p1 : Int32) : ∀ r, fX9_need M p0 p1 = some r → Ct l yX9_need (.code yX9_need cX9_need 2 none) 7 140 Ω [.int p0, .int p1] M ((cpVX M) r) := by
  refine ofG [(0, .int p0), (1, .int p1)] hO (by decide) rfl (Nat.le_of_ble_eq_true rfl) rfl ?_
  intro p e s m args below meth c
  unfold fX9_need
  refine g_iload_n 0 rfl rfl 1 rfl dX9_need_0 ?_
  refine g_join 8 (fun a1 => []) (fun a1 => []) (fun a1 => M) ?_ ?_
  · intro a1
    exact p_vretX rfl dX9_need_8
  · intro k2 hk2
    refine g_if_ne 8 (by decide) 4 rfl dX9_need_1 ?_ ?_
    · refine g_iload_n 1 rfl rfl 5 rfl dX9_need_4 ?_
      refine p_xSV [.int p1] [] (c_X9_raise l hO hl0 hT M p1) (fun _ => rfl) dX9_need_5 us_X9_101 rfl yk_X9_raise ⟨by decide, by decide⟩ (Nat.le_of_ble_eq_true rfl) rfl 8 rfl ?_
      intro u3
      refine g_sub [] [] rfl ?_
      exact hk2 ()
    · refine g_sub [] [] rfl ?_
      exact hk2 ()
def fX9_earlierReason (M : Mem) (p0 : Int32) (p1 : Int32) : Option Int32 := jn (fun (a1 : Unit) => clp (fJ9_max_7cf53 M p0 p1) (fun x3 => some x3)) (fun k2 => if p0 = 0 then (k2 ()) else (if p1 = 0 then (k2 ()) else (clp (fJ9_min_7cf53 M p0 p1) (fun x4 => some x4))))
set_option maxRecDepth 100000 in
set_option maxHeartbeats 4000000 in
theorem c_X9_earlierReason {Ω : Wd} (l : Launch) (hO : OkW Ω)  (M : Mem) (p0 : Int32) (p1 : Int32) : ∀ r, fX9_earlierReason M p0 p1 = some r → Ct l yX9_earlierReason (.code yX9_earlierReason cX9_earlierReason 2 (some .int)) 1 21 Ω [.int p0, .int p1] M ((cpI M) r) := by
  refine ofG [(0, .int p0), (1, .int p1)] hO (by decide) rfl (Nat.le_of_ble_eq_true rfl) rfl ?_
  intro p e s m args below meth c
  unfold fX9_earlierReason
  refine g_iload_n 0 rfl rfl 1 rfl dX9_earlierReason_0 ?_
  refine g_join 8 (fun a1 => [(0, .int p0), (1, .int p1)]) (fun a1 => []) (fun a1 => M) ?_ ?_
  · intro a1
    refine g_iload_n 0 rfl rfl 9 rfl dX9_earlierReason_8 ?_
    refine g_iload_n 1 rfl rfl 10 rfl dX9_earlierReason_9 ?_
    refine p_cTI [.int p0, .int p1] [] (c_J9_max_7cf53 l hO M p0 p1) dX9_earlierReason_10 ut_X9_435 yk_J9_max_7cf53 ⟨by decide, by decide⟩ (Nat.le_of_ble_eq_true rfl) rfl 13 rfl ?_
    intro x3
    exact p_iret rfl dX9_earlierReason_13
  · intro k2 hk2
    refine g_if_eq 8 (by decide) 4 rfl dX9_earlierReason_1 ?_ ?_
    · exact hk2 ()
    · refine g_iload_n 1 rfl rfl 5 rfl dX9_earlierReason_4 ?_
      refine g_if_ne 14 (by decide) 8 rfl dX9_earlierReason_5 ?_ ?_
      · exact hk2 ()
      · refine g_iload_n 0 rfl rfl 15 rfl dX9_earlierReason_14 ?_
        refine g_iload_n 1 rfl rfl 16 rfl dX9_earlierReason_15 ?_
        refine p_cTI [.int p0, .int p1] [] (c_J9_min_7cf53 l hO M p0 p1) dX9_earlierReason_16 ut_X9_440 yk_J9_min_7cf53 ⟨by decide, by decide⟩ (Nat.le_of_ble_eq_true rfl) rfl 19 rfl ?_
        intro x4
        exact p_iret rfl dX9_earlierReason_19
