def fX9_errorPosition (M : Mem)  : Option Int32 := some (M 0 10)
set_option maxRecDepth 100000 in
set_option maxHeartbeats 4000000 in
theorem c_X9_errorPosition {Ω : Wd} (l : Launch) (hO : OkW Ω) (hX : LX Ω)  (M : Mem)  : ∀ r, fX9_errorPosition M  = some r → Ct l yX9_errorPosition (.code yX9_errorPosition cX9_errorPosition 1 (some .int)) 0 0 Ω [.ref (wA Ω 0)] M ((cpI M) r) := by
  refine ofG [(0, .ref (wA Ω 0))] hO (by decide) rfl (Nat.le_of_ble_eq_true rfl) rfl ?_
  intro p e s m args below meth c
  unfold fX9_errorPosition
  refine g_aload_n 0 rfl rfl 1 rfl dX9_errorPosition_0 ?_
  refine w_get (lx_X hX) rfl in_X9 10 (by decide) wf_X9_61 rfl 4 rfl dX9_errorPosition_1 ?_
  exact p_iret rfl dX9_errorPosition_4
def fX9_save (M : Mem)  : Option (Int32 × Mem) := cl (fX6_copyFrom M 85 1) (fun u1 M2 => bnd (mset M2 0 8 1) (fun M3 => some (M3 1 3, M3)))
set_option maxRecDepth 100000 in
set_option maxHeartbeats 4000000 in
theorem c_X9_save {Ω : Wd} (l : Launch) (hO : OkW Ω) (hX : LX Ω)  (M : Mem)  : ∀ r, fX9_save M  = some r → Ct l yX9_save (.code yX9_save cX9_save 1 (some .int)) 3 69 Ω [.ref (wA Ω 0)] M (cvI r) := by
  refine ofG [(0, .ref (wA Ω 0))] hO (by decide) rfl (Nat.le_of_ble_eq_true rfl) rfl ?_
  intro p e s m args below meth c
  unfold fX9_save
  refine g_aload_n 0 rfl rfl 1 rfl dX9_save_0 ?_
  refine w_getR (lx_X hX) rfl in_X9 2 (by decide) wf_X9_19 85 rfl 4 rfl dX9_save_1 ?_
  refine g_aload_n 0 rfl rfl 5 rfl dX9_save_4 ?_
  refine w_getR (lx_X hX) rfl in_X9 0 (by decide) wf_X9_12 1 rfl 8 rfl dX9_save_5 ?_
  refine g_cVV 85 [.ref (wA Ω 1)] [] (c_X6_copyFrom l hO hX isS_85 isS_1 M) dX9_save_8 uv_X9_345 rfl yk_X6_copyFrom ⟨by decide, by decide⟩ (lx_S hX isS_85).1 (lx_S hX isS_85).2 rfl (Nat.le_of_ble_eq_true rfl) rfl 11 rfl ?_
  intro u1 M2
  refine g_aload_n 0 rfl rfl 12 rfl dX9_save_11 ?_
  refine g_iconst 1 13 rfl dX9_save_12 (by decide) ?_
  refine w_put (lx_X hX) rfl in_X9 8 (by decide) wf_X9_375 tyX9 tyX9_ok nmX9 rfl rfl rfl rfl 16 rfl dX9_save_13 ?_
  intro M3
  refine g_aload_n 0 rfl rfl 17 rfl dX9_save_16 ?_
  refine w_getR (lx_X hX) rfl in_X9 0 (by decide) wf_X9_12 1 rfl 20 rfl dX9_save_17 ?_
  refine w_get (lx_S hX isS_1) rfl in_X6 3 (by decide) wf_X9_90 rfl 23 rfl dX9_save_20 ?_
  exact g_iret rfl dX9_save_23
def fX9_faultOfReason (M : Mem) (p0 : Int32) : Option (Int32 × Mem) := if p0 = 0 then (some (0, M)) else (bnd (mset M 0 9 p0) (fun M1 => some (4, M1)))
set_option maxRecDepth 100000 in
set_option maxHeartbeats 4000000 in
theorem c_X9_faultOfReason {Ω : Wd} (l : Launch) (hO : OkW Ω) (hX : LX Ω)  (M : Mem) (p0 : Int32) : ∀ r, fX9_faultOfReason M p0 = some r → Ct l yX9_faultOfReason (.code yX9_faultOfReason cX9_faultOfReason 2 (some .int)) 0 0 Ω [.ref (wA Ω 0), .int p0] M (cvI r) := by
  refine ofG [(0, .ref (wA Ω 0)), (1, .int p0)] hO (by decide) rfl (Nat.le_of_ble_eq_true rfl) rfl ?_
  intro p e s m args below meth c
  unfold fX9_faultOfReason
  refine g_iload_n 1 rfl rfl 1 rfl dX9_faultOfReason_0 ?_
  refine g_if_ne 6 (by decide) 4 rfl dX9_faultOfReason_1 ?_ ?_
  · refine g_iconst 0 5 rfl dX9_faultOfReason_4 (by decide) ?_
    exact g_iret rfl dX9_faultOfReason_5
  · refine g_aload_n 0 rfl rfl 7 rfl dX9_faultOfReason_6 ?_
    refine g_iload_n 1 rfl rfl 8 rfl dX9_faultOfReason_7 ?_
    refine w_put (lx_X hX) rfl in_X9 9 (by decide) wf_X9_57 tyX9 tyX9_ok nmX9 rfl rfl rfl rfl 11 rfl dX9_faultOfReason_8 ?_
    intro M1
    refine g_iconst 4 12 rfl dX9_faultOfReason_11 (by decide) ?_
    exact g_iret rfl dX9_faultOfReason_12
def fX9_offsetFault (M : Mem) (p0 : Int32) (p1 : Int32) : Option Int32 := clpn (fX6_find M 1 p0) (some 1) (fun o1 => grd (isJb o1) (clp (fX9_isWithin M p1 0 ((M 1 0) - 1)) (fun x2 => if x2 = 0 then (some 2) else (clp (fX2_isChangePlanned M o1) (fun x3 => jn (fun (a4 : Int32) => some a4) (fun k5 => if x3 = 0 then (k5 0) else (k5 3)))))))
set_option maxRecDepth 100000 in
set_option maxHeartbeats 4000000 in
theorem c_X9_offsetFault {Ω : Wd} (l : Launch) (hO : OkW Ω) (hX : LX Ω)  (M : Mem) (p0 : Int32) (p1 : Int32) : ∀ r, fX9_offsetFault M p0 p1 = some r → Ct l yX9_offsetFault (.code yX9_offsetFault cX9_offsetFault 4 (some .int)) 2 43 Ω [.ref (wA Ω 0), .int p0, .int p1] M ((cpI M) r) := by
  refine ofG [(0, .ref (wA Ω 0)), (1, .int p0), (2, .int p1)] hO (by decide) rfl (Nat.le_of_ble_eq_true rfl) rfl ?_
  intro p e s m args below meth c
  unfold fX9_offsetFault
  refine g_aload_n 0 rfl rfl 1 rfl dX9_offsetFault_0 ?_
  refine w_getR (lx_X hX) rfl in_X9 0 (by decide) wf_X9_12 1 rfl 4 rfl dX9_offsetFault_1 ?_
  refine g_iload_n 1 rfl rfl 5 rfl dX9_offsetFault_4 ?_
  refine p_cVN 1 [.int p0] [] (c_X6_find l hO hX isS_1 M p0) dX9_offsetFault_5 uv_X9_287 rfl yk_X6_find ⟨by decide, by decide⟩ (lx_S hX isS_1).1 (lx_S hX isS_1).2 rfl (Nat.le_of_ble_eq_true rfl) rfl 8 rfl ?_ ?_
  · refine g_astore_nNA [(3, .null), (0, .ref (wA Ω 0)), (1, .int p0), (2, .int p1)] rfl 9 rfl dX9_offsetFault_8 (by decide) rfl ?_
    refine g_aload_nN 0 rfl rfl 10 rfl dX9_offsetFault_9 ?_
    refine g_ifnonnullN 13 rfl dX9_offsetFault_10 ?_
    refine g_iconst 1 14 rfl dX9_offsetFault_13 (by decide) ?_
    exact p_iret rfl dX9_offsetFault_14
  · intro o1
    refine g_grd (fun ho10 => ?_)
    have ho1 := isJb_of ho10
    refine g_astore_nA [(3, .ref (wA Ω o1)), (0, .ref (wA Ω 0)), (1, .int p0), (2, .int p1)] rfl 9 rfl dX9_offsetFault_8 (by decide) rfl ?_
    refine g_aload_n 0 rfl rfl 10 rfl dX9_offsetFault_9 ?_
    refine g_ifnonnull 15 (by decide) dX9_offsetFault_10 ?_
    refine g_iload_n 3 rfl rfl 16 rfl dX9_offsetFault_15 ?_
    refine g_iconst 0 17 rfl dX9_offsetFault_16 (by decide) ?_
    refine g_aload_n 1 rfl rfl 18 rfl dX9_offsetFault_17 ?_
    refine w_getR (lx_X hX) rfl in_X9 0 (by decide) wf_X9_12 1 rfl 21 rfl dX9_offsetFault_18 ?_
    refine w_get (lx_S hX isS_1) rfl in_X6 0 (by decide) wf_X9_80 rfl 24 rfl dX9_offsetFault_21 ?_
    refine g_iconst 1 25 rfl dX9_offsetFault_24 (by decide) ?_
    refine g_isub 26 rfl dX9_offsetFault_25 ?_
    refine p_cSI [.int p1, .int 0, .int ((M 1 0) - 1)] [] (c_X9_isWithin l hO M p1 0 ((M 1 0) - 1)) dX9_offsetFault_26 us_X9_64 rfl yk_X9_isWithin ⟨by decide, by decide⟩ (Nat.le_of_ble_eq_true rfl) rfl 29 rfl ?_
    intro x2
    refine g_if_ne 34 (by decide) 32 rfl dX9_offsetFault_29 ?_ ?_
    · refine g_iconst 2 33 rfl dX9_offsetFault_32 (by decide) ?_
      exact p_iret rfl dX9_offsetFault_33
    · refine g_aload_n 0 rfl rfl 35 rfl dX9_offsetFault_34 ?_
      refine p_cVI o1 [] [] (c_X2_isChangePlanned l hO hX ho1 M) dX9_offsetFault_35 uv_X9_194 rfl yk_X2_isChangePlanned ⟨by decide, by decide⟩ (lx_J hX ho1).1 (lx_J hX ho1).2 rfl (Nat.le_of_ble_eq_true rfl) rfl 38 rfl ?_
      intro x3
      refine g_join 46 (fun a4 => []) (fun a4 => [.int a4]) (fun a4 => M) ?_ ?_
      · intro a4
        exact p_iret rfl dX9_offsetFault_46
      · intro k5 hk5
        refine g_if_eq 45 (by decide) 41 rfl dX9_offsetFault_38 ?_ ?_
        · refine g_iconst 0 46 rfl dX9_offsetFault_45 (by decide) ?_
          refine g_sub [] [] rfl ?_
          exact hk5 0
        · refine g_iconst 3 42 rfl dX9_offsetFault_41 (by decide) ?_
          refine g_goto 46 (by decide) dX9_offsetFault_42 ?_
          refine g_sub [] [] rfl ?_
          exact hk5 3
def fX9_roadFault (M : Mem) (p0 : Int32) (p1 : Int32) (p2 : Int32) : Option Int32 := clpn (fX6_find M 1 p0) (jn (fun (a1 : Int32) => some a1) (fun k2 => if (0 : Int32) = 0 then (k2 1) else (k2 0))) (fun o3 => grd (isJb o3) (clp (fX2_hasGroup M o3 p1) (fun x4 => if x4 = 0 then (jn (fun (a5 : Int32) => some a5) (fun k6 => if (0 : Int32) = 0 then (k6 1) else (k6 0))) else (clp (fX2_hasGroup M o3 p2) (fun x7 => if x7 = 0 then (jn (fun (a8 : Int32) => some a8) (fun k9 => if (0 : Int32) = 0 then (k9 1) else (k9 0))) else (jn (fun (a10 : Int32) => some a10) (fun k11 => if (1 : Int32) = 0 then (k11 1) else (k11 0))))))))
set_option maxRecDepth 100000 in
set_option maxHeartbeats 4000000 in
theorem c_X9_roadFault {Ω : Wd} (l : Launch) (hO : OkW Ω) (hX : LX Ω)  (M : Mem) (p0 : Int32) (p1 : Int32) (p2 : Int32) : ∀ r, fX9_roadFault M p0 p1 p2 = some r → Ct l yX9_roadFault (.code yX9_roadFault cX9_roadFault 6 (some .int)) 2 43 Ω [.ref (wA Ω 0), .int p0, .int p1, .int p2] M ((cpI M) r) := by
  refine ofG [(0, .ref (wA Ω 0)), (1, .int p0), (2, .int p1), (3, .int p2)] hO (by decide) rfl (Nat.le_of_ble_eq_true rfl) rfl ?_
  intro p e s m args below meth c
  unfold fX9_roadFault
  refine g_aload_n 0 rfl rfl 1 rfl dX9_roadFault_0 ?_
  refine w_getR (lx_X hX) rfl in_X9 0 (by decide) wf_X9_12 1 rfl 4 rfl dX9_roadFault_1 ?_
  refine g_iload_n 1 rfl rfl 5 rfl dX9_roadFault_4 ?_
  refine p_cVN 1 [.int p0] [] (c_X6_find l hO hX isS_1 M p0) dX9_roadFault_5 uv_X9_287 rfl yk_X6_find ⟨by decide, by decide⟩ (lx_S hX isS_1).1 (lx_S hX isS_1).2 rfl (Nat.le_of_ble_eq_true rfl) rfl 8 rfl ?_ ?_
  · refine g_astoreNA [(4, .null), (0, .ref (wA Ω 0)), (1, .int p0), (2, .int p1), (3, .int p2)] 10 rfl dX9_roadFault_8 (by decide) rfl ?_
    refine g_aloadN 0 rfl 12 rfl dX9_roadFault_10 ?_
    refine g_ifnullN 37 (by decide) dX9_roadFault_12 ?_
    refine g_iconst 0 38 rfl dX9_roadFault_37 (by decide) ?_
    refine g_istoreA [(5, .int 0), (4, .null), (0, .ref (wA Ω 0)), (1, .int p0), (2, .int p1), (3, .int p2)] 40 rfl dX9_roadFault_38 (by decide) rfl ?_
    refine g_iload 0 rfl 42 rfl dX9_roadFault_40 ?_
    refine g_join 50 (fun a1 => []) (fun a1 => [.int a1]) (fun a1 => M) ?_ ?_
    · intro a1
      exact p_iret rfl dX9_roadFault_50
    · intro k2 hk2
      refine g_if_eq 49 (by decide) 45 rfl dX9_roadFault_42 ?_ ?_
      · refine g_iconst 1 50 rfl dX9_roadFault_49 (by decide) ?_
        refine g_sub [] [] rfl ?_
        exact hk2 1
      · refine g_iconst 0 46 rfl dX9_roadFault_45 (by decide) ?_
        refine g_goto 50 (by decide) dX9_roadFault_46 ?_
        refine g_sub [] [] rfl ?_
        exact hk2 0
  · intro o3
    refine g_grd (fun ho30 => ?_)
    have ho3 := isJb_of ho30
    refine g_astoreA [(4, .ref (wA Ω o3)), (0, .ref (wA Ω 0)), (1, .int p0), (2, .int p1), (3, .int p2)] 10 rfl dX9_roadFault_8 (by decide) rfl ?_
    refine g_aload 0 rfl 12 rfl dX9_roadFault_10 ?_
    refine g_ifnull 15 rfl dX9_roadFault_12 ?_
    refine g_aload 0 rfl 17 rfl dX9_roadFault_15 ?_
    refine g_iload_n 3 rfl rfl 18 rfl dX9_roadFault_17 ?_
    refine p_cVI o3 [.int p1] [] (c_X2_hasGroup l hO hX ho3 M p1) dX9_roadFault_18 uv_X9_188 rfl yk_X2_hasGroup ⟨by decide, by decide⟩ (lx_J hX ho3).1 (lx_J hX ho3).2 rfl (Nat.le_of_ble_eq_true rfl) rfl 21 rfl ?_
    intro x4
    refine g_if_eq 37 (by decide) 24 rfl dX9_roadFault_21 ?_ ?_
    · refine g_iconst 0 38 rfl dX9_roadFault_37 (by decide) ?_
      refine g_istoreA [(5, .int 0), (4, .ref (wA Ω o3)), (0, .ref (wA Ω 0)), (1, .int p0), (2, .int p1), (3, .int p2)] 40 rfl dX9_roadFault_38 (by decide) rfl ?_
      refine g_iload 0 rfl 42 rfl dX9_roadFault_40 ?_
      refine g_join 50 (fun a5 => []) (fun a5 => [.int a5]) (fun a5 => M) ?_ ?_
      · intro a5
        exact p_iret rfl dX9_roadFault_50
      · intro k6 hk6
        refine g_if_eq 49 (by decide) 45 rfl dX9_roadFault_42 ?_ ?_
        · refine g_iconst 1 50 rfl dX9_roadFault_49 (by decide) ?_
          refine g_sub [] [] rfl ?_
          exact hk6 1
        · refine g_iconst 0 46 rfl dX9_roadFault_45 (by decide) ?_
          refine g_goto 50 (by decide) dX9_roadFault_46 ?_
          refine g_sub [] [] rfl ?_
          exact hk6 0
    · refine g_aload 0 rfl 26 rfl dX9_roadFault_24 ?_
      refine g_iload_n 4 rfl rfl 27 rfl dX9_roadFault_26 ?_
      refine p_cVI o3 [.int p2] [] (c_X2_hasGroup l hO hX ho3 M p2) dX9_roadFault_27 uv_X9_188 rfl yk_X2_hasGroup ⟨by decide, by decide⟩ (lx_J hX ho3).1 (lx_J hX ho3).2 rfl (Nat.le_of_ble_eq_true rfl) rfl 30 rfl ?_
      intro x7
      refine g_if_eq 37 (by decide) 33 rfl dX9_roadFault_30 ?_ ?_
      · refine g_iconst 0 38 rfl dX9_roadFault_37 (by decide) ?_
        refine g_istoreA [(5, .int 0), (4, .ref (wA Ω o3)), (0, .ref (wA Ω 0)), (1, .int p0), (2, .int p1), (3, .int p2)] 40 rfl dX9_roadFault_38 (by decide) rfl ?_
        refine g_iload 0 rfl 42 rfl dX9_roadFault_40 ?_
        refine g_join 50 (fun a8 => []) (fun a8 => [.int a8]) (fun a8 => M) ?_ ?_
        · intro a8
          exact p_iret rfl dX9_roadFault_50
        · intro k9 hk9
          refine g_if_eq 49 (by decide) 45 rfl dX9_roadFault_42 ?_ ?_
          · refine g_iconst 1 50 rfl dX9_roadFault_49 (by decide) ?_
            refine g_sub [] [] rfl ?_
            exact hk9 1
          · refine g_iconst 0 46 rfl dX9_roadFault_45 (by decide) ?_
            refine g_goto 50 (by decide) dX9_roadFault_46 ?_
            refine g_sub [] [] rfl ?_
            exact hk9 0
      · refine g_iconst 1 34 rfl dX9_roadFault_33 (by decide) ?_
        refine g_goto 38 (by decide) dX9_roadFault_34 ?_
        refine g_istoreA [(5, .int 1), (4, .ref (wA Ω o3)), (0, .ref (wA Ω 0)), (1, .int p0), (2, .int p1), (3, .int p2)] 40 rfl dX9_roadFault_38 (by decide) rfl ?_
        refine g_iload 0 rfl 42 rfl dX9_roadFault_40 ?_
        refine g_join 50 (fun a10 => []) (fun a10 => [.int a10]) (fun a10 => M) ?_ ?_
        · intro a10
          exact p_iret rfl dX9_roadFault_50
        · intro k11 hk11
          refine g_if_eq 49 (by decide) 45 rfl dX9_roadFault_42 ?_ ?_
          · refine g_iconst 1 50 rfl dX9_roadFault_49 (by decide) ?_
            refine g_sub [] [] rfl ?_
            exact hk11 1
          · refine g_iconst 0 46 rfl dX9_roadFault_45 (by decide) ?_
            refine g_goto 50 (by decide) dX9_roadFault_46 ?_
            refine g_sub [] [] rfl ?_
            exact hk11 0
def fX9_pressFault (M : Mem) (p0 : Int32) (p1 : Int32) : Option Int32 := clpn (fX6_find M 1 p0) (some 1) (fun o1 => grd (isJb o1) (clp (fX2_hasGroup M o1 p1) (fun x2 => if x2 = 0 then (some 1) else (clp (fX2_isByRequest M o1 p1) (fun x3 => jn (fun (a4 : Int32) => some a4) (fun k5 => if x3 = 0 then (k5 3) else (k5 0)))))))
set_option maxRecDepth 100000 in
set_option maxHeartbeats 4000000 in
theorem c_X9_pressFault {Ω : Wd} (l : Launch) (hO : OkW Ω) (hX : LX Ω)  (M : Mem) (p0 : Int32) (p1 : Int32) : ∀ r, fX9_pressFault M p0 p1 = some r → Ct l yX9_pressFault (.code yX9_pressFault cX9_pressFault 4 (some .int)) 2 43 Ω [.ref (wA Ω 0), .int p0, .int p1] M ((cpI M) r) := by
  refine ofG [(0, .ref (wA Ω 0)), (1, .int p0), (2, .int p1)] hO (by decide) rfl (Nat.le_of_ble_eq_true rfl) rfl ?_
  intro p e s m args below meth c
  unfold fX9_pressFault
  refine g_aload_n 0 rfl rfl 1 rfl dX9_pressFault_0 ?_
  refine w_getR (lx_X hX) rfl in_X9 0 (by decide) wf_X9_12 1 rfl 4 rfl dX9_pressFault_1 ?_
  refine g_iload_n 1 rfl rfl 5 rfl dX9_pressFault_4 ?_
  refine p_cVN 1 [.int p0] [] (c_X6_find l hO hX isS_1 M p0) dX9_pressFault_5 uv_X9_287 rfl yk_X6_find ⟨by decide, by decide⟩ (lx_S hX isS_1).1 (lx_S hX isS_1).2 rfl (Nat.le_of_ble_eq_true rfl) rfl 8 rfl ?_ ?_
  · refine g_astore_nNA [(3, .null), (0, .ref (wA Ω 0)), (1, .int p0), (2, .int p1)] rfl 9 rfl dX9_pressFault_8 (by decide) rfl ?_
    refine g_aload_nN 0 rfl rfl 10 rfl dX9_pressFault_9 ?_
    refine g_ifnullN 21 (by decide) dX9_pressFault_10 ?_
    refine g_iconst 1 22 rfl dX9_pressFault_21 (by decide) ?_
    exact p_iret rfl dX9_pressFault_22
  · intro o1
    refine g_grd (fun ho10 => ?_)
    have ho1 := isJb_of ho10
    refine g_astore_nA [(3, .ref (wA Ω o1)), (0, .ref (wA Ω 0)), (1, .int p0), (2, .int p1)] rfl 9 rfl dX9_pressFault_8 (by decide) rfl ?_
    refine g_aload_n 0 rfl rfl 10 rfl dX9_pressFault_9 ?_
    refine g_ifnull 13 rfl dX9_pressFault_10 ?_
    refine g_aload_n 0 rfl rfl 14 rfl dX9_pressFault_13 ?_
    refine g_iload_n 3 rfl rfl 15 rfl dX9_pressFault_14 ?_
    refine p_cVI o1 [.int p1] [] (c_X2_hasGroup l hO hX ho1 M p1) dX9_pressFault_15 uv_X9_188 rfl yk_X2_hasGroup ⟨by decide, by decide⟩ (lx_J hX ho1).1 (lx_J hX ho1).2 rfl (Nat.le_of_ble_eq_true rfl) rfl 18 rfl ?_
    intro x2
    refine g_if_ne 23 (by decide) 21 rfl dX9_pressFault_18 ?_ ?_
    · refine g_iconst 1 22 rfl dX9_pressFault_21 (by decide) ?_
      exact p_iret rfl dX9_pressFault_22
    · refine g_aload_n 0 rfl rfl 24 rfl dX9_pressFault_23 ?_
      refine g_iload_n 3 rfl rfl 25 rfl dX9_pressFault_24 ?_
      refine p_cVI o1 [.int p1] [] (c_X2_isByRequest l hO hX ho1 M p1) dX9_pressFault_25 uv_X9_170 rfl yk_X2_isByRequest ⟨by decide, by decide⟩ (lx_J hX ho1).1 (lx_J hX ho1).2 rfl (Nat.le_of_ble_eq_true rfl) rfl 28 rfl ?_
      intro x3
      refine g_join 36 (fun a4 => []) (fun a4 => [.int a4]) (fun a4 => M) ?_ ?_
      · intro a4
        exact p_iret rfl dX9_pressFault_36
      · intro k5 hk5
        refine g_if_eq 35 (by decide) 31 rfl dX9_pressFault_28 ?_ ?_
        · refine g_iconst 3 36 rfl dX9_pressFault_35 (by decide) ?_
          refine g_sub [] [] rfl ?_
          exact hk5 3
        · refine g_iconst 0 32 rfl dX9_pressFault_31 (by decide) ?_
          refine g_goto 36 (by decide) dX9_pressFault_32 ?_
          refine g_sub [] [] rfl ?_
          exact hk5 0
def fX9_runFault (M : Mem) (p0 : Int32) : Option Int32 := clp (fX9_isWithin M p0 1 300) (fun x1 => if x1 = 0 then (some 2) else (jn (fun (a2 : Int32) => some a2) (fun k3 => if (M 1 2) + p0 ≤ 99999 then (k3 0) else (k3 3))))
set_option maxRecDepth 100000 in
set_option maxHeartbeats 4000000 in
theorem c_X9_runFault {Ω : Wd} (l : Launch) (hO : OkW Ω) (hX : LX Ω)  (M : Mem) (p0 : Int32) : ∀ r, fX9_runFault M p0 = some r → Ct l yX9_runFault (.code yX9_runFault cX9_runFault 2 (some .int)) 1 22 Ω [.ref (wA Ω 0), .int p0] M ((cpI M) r) := by
  refine ofG [(0, .ref (wA Ω 0)), (1, .int p0)] hO (by decide) rfl (Nat.le_of_ble_eq_true rfl) rfl ?_
  intro p e s m args below meth c
  unfold fX9_runFault
  refine g_iload_n 1 rfl rfl 1 rfl dX9_runFault_0 ?_
  refine g_iconst 1 2 rfl dX9_runFault_1 (by decide) ?_
  refine g_sipush 300 5 rfl dX9_runFault_2 (by decide) ?_
  refine p_cSI [.int p0, .int 1, .int 300] [] (c_X9_isWithin l hO M p0 1 300) dX9_runFault_5 us_X9_64 rfl yk_X9_isWithin ⟨by decide, by decide⟩ (Nat.le_of_ble_eq_true rfl) rfl 8 rfl ?_
  intro x1
  refine g_if_ne 13 (by decide) 11 rfl dX9_runFault_8 ?_ ?_
  · refine g_iconst 2 12 rfl dX9_runFault_11 (by decide) ?_
    exact p_iret rfl dX9_runFault_12
  · refine g_aload_n 0 rfl rfl 14 rfl dX9_runFault_13 ?_
    refine w_getR (lx_X hX) rfl in_X9 0 (by decide) wf_X9_12 1 rfl 17 rfl dX9_runFault_14 ?_
    refine w_get (lx_S hX isS_1) rfl in_X6 2 (by decide) wf_X9_130 rfl 20 rfl dX9_runFault_17 ?_
    refine g_iload_n 1 rfl rfl 21 rfl dX9_runFault_20 ?_
    refine g_iadd 22 rfl dX9_runFault_21 ?_
    refine g_ldc_w 99999 wq_X9_270 25 rfl dX9_runFault_22 ?_
    refine g_join 33 (fun a2 => []) (fun a2 => [.int a2]) (fun a2 => M) ?_ ?_
    · intro a2
      exact p_iret rfl dX9_runFault_33
    · intro k3 hk3
      refine g_icmp_le 32 (by decide) 28 rfl dX9_runFault_25 ?_ ?_
      · refine g_iconst 0 33 rfl dX9_runFault_32 (by decide) ?_
        refine g_sub [] [] rfl ?_
        exact hk3 0
      · refine g_iconst 3 29 rfl dX9_runFault_28 (by decide) ?_
        refine g_goto 33 (by decide) dX9_runFault_29 ?_
        refine g_sub [] [] rfl ?_
        exact hk3 3
def fX9_found (M : Mem) (p0 : Int32) : Option (Nat ⊕ Nat) := clpn (fX6_find M 1 p0) (some (.inl 0)) (fun o1 => grd (isJb o1) (some (.inr o1)))
set_option maxRecDepth 100000 in
set_option maxHeartbeats 4000000 in
theorem c_X9_found {Ω : Wd} (l : Launch) (hO : OkW Ω) (hX : LX Ω) (hl0 : l.stackTraces = false) (hT : ThrOk Ω)  (M : Mem) (p0 : Int32) : ∀ r, fX9_found M p0 = some r → Ct l yX9_found (.code yX9_found cX9_found 3 (some (.object "SignalRoad$Junction"))) 6 120 Ω [.ref (wA Ω 0), .int p0] M ((cpRX Ω M) r) := by
  refine ofG [(0, .ref (wA Ω 0)), (1, .int p0)] hO (by decide) rfl (Nat.le_of_ble_eq_true rfl) rfl ?_
  intro p e s m args below meth c
  unfold fX9_found
  refine g_aload_n 0 rfl rfl 1 rfl dX9_found_0 ?_
  refine w_getR (lx_X hX) rfl in_X9 0 (by decide) wf_X9_12 1 rfl 4 rfl dX9_found_1 ?_
  refine g_iload_n 1 rfl rfl 5 rfl dX9_found_4 ?_
  refine p_cVN 1 [.int p0] [] (c_X6_find l hO hX isS_1 M p0) dX9_found_5 uv_X9_287 rfl yk_X6_find ⟨by decide, by decide⟩ (lx_S hX isS_1).1 (lx_S hX isS_1).2 rfl (Nat.le_of_ble_eq_true rfl) rfl 8 rfl ?_ ?_
  · refine g_astore_nNA [(2, .null), (0, .ref (wA Ω 0)), (1, .int p0)] rfl 9 rfl dX9_found_8 (by decide) rfl ?_
    refine g_aload_nN 0 rfl rfl 10 rfl dX9_found_9 ?_
    refine g_ifnonnullN 13 rfl dX9_found_10 ?_
    exact g_throwW hl0 hT 0 411 413 415 "there is no such junction" xNm xf_0 xNm_ok wj_X9_411 wxi_0 (List.mem_of_getElem? (i := 5) rfl) xa_0 xg_0 dX9_found_13 dX9_found_16 dX9_found_17 dX9_found_20 dX9_found_23 (by decide) (Nat.le_of_ble_eq_true rfl) rfl
  · intro o1
    refine g_grd (fun ho10 => ?_)
    have ho1 := isJb_of ho10
    refine g_astore_nA [(2, .ref (wA Ω o1)), (0, .ref (wA Ω 0)), (1, .int p0)] rfl 9 rfl dX9_found_8 (by decide) rfl ?_
    refine g_aload_n 0 rfl rfl 10 rfl dX9_found_9 ?_
    refine g_ifnonnull 24 (by decide) dX9_found_10 ?_
    refine g_aload_n 0 rfl rfl 25 rfl dX9_found_24 ?_
    exact p_aretX (Or.inl ⟨_, rfl⟩) rfl dX9_found_25
def fX9_isGreen (M : Mem) (p0 : Int32) (p1 : Int32) : Option Int32 := clp (fX9_isWithin M p0 0 ((M 1 0) - 1)) (fun x1 => jn (fun (a2 : Int32) => grd (isb a2) (some a2)) (fun k3 => jn (fun (a4 : Unit) => k3 0) (fun k5 => if x1 = 0 then (k5 ()) else (clp (fX9_isWithin M p1 1 (M 1 0)) (fun x6 => if x6 = 0 then (k5 ()) else (k3 1))))))
set_option maxRecDepth 100000 in
set_option maxHeartbeats 4000000 in
theorem c_X9_isGreen {Ω : Wd} (l : Launch) (hO : OkW Ω) (hX : LX Ω)  (M : Mem) (p0 : Int32) (p1 : Int32) : ∀ r, fX9_isGreen M p0 p1 = some r → Ct l yX9_isGreen (.code yX9_isGreen cX9_isGreen 3 (some .boolean)) 1 22 Ω [.ref (wA Ω 0), .int p0, .int p1] M ((cpI M) r) := by
  refine ofG [(0, .ref (wA Ω 0)), (1, .int p0), (2, .int p1)] hO (by decide) rfl (Nat.le_of_ble_eq_true rfl) rfl ?_
  intro p e s m args below meth c
  unfold fX9_isGreen
  refine g_iload_n 1 rfl rfl 1 rfl dX9_isGreen_0 ?_
  refine g_iconst 0 2 rfl dX9_isGreen_1 (by decide) ?_
  refine g_aload_n 0 rfl rfl 3 rfl dX9_isGreen_2 ?_
  refine w_getR (lx_X hX) rfl in_X9 0 (by decide) wf_X9_12 1 rfl 6 rfl dX9_isGreen_3 ?_
  refine w_get (lx_S hX isS_1) rfl in_X6 0 (by decide) wf_X9_80 rfl 9 rfl dX9_isGreen_6 ?_
  refine g_iconst 1 10 rfl dX9_isGreen_9 (by decide) ?_
  refine g_isub 11 rfl dX9_isGreen_10 ?_
  refine p_cSI [.int p0, .int 0, .int ((M 1 0) - 1)] [] (c_X9_isWithin l hO M p0 0 ((M 1 0) - 1)) dX9_isGreen_11 us_X9_64 rfl yk_X9_isWithin ⟨by decide, by decide⟩ (Nat.le_of_ble_eq_true rfl) rfl 14 rfl ?_
  intro x1
  refine g_join 37 (fun a2 => []) (fun a2 => [.int a2]) (fun a2 => M) ?_ ?_
  · intro a2
    exact p_bret rfl dX9_isGreen_37
  · intro k3 hk3
    refine g_join 36 (fun a4 => []) (fun a4 => []) (fun a4 => M) ?_ ?_
    · intro a4
      refine g_iconst 0 37 rfl dX9_isGreen_36 (by decide) ?_
      exact hk3 0
    · intro k5 hk5
      refine g_if_eq 36 (by decide) 17 rfl dX9_isGreen_14 ?_ ?_
      · refine g_sub [] [] rfl ?_
        exact hk5 ()
      · refine g_iload_n 2 rfl rfl 18 rfl dX9_isGreen_17 ?_
        refine g_iconst 1 19 rfl dX9_isGreen_18 (by decide) ?_
        refine g_aload_n 0 rfl rfl 20 rfl dX9_isGreen_19 ?_
        refine w_getR (lx_X hX) rfl in_X9 0 (by decide) wf_X9_12 1 rfl 23 rfl dX9_isGreen_20 ?_
        refine w_get (lx_S hX isS_1) rfl in_X6 0 (by decide) wf_X9_80 rfl 26 rfl dX9_isGreen_23 ?_
        refine p_cSI [.int p1, .int 1, .int (M 1 0)] [] (c_X9_isWithin l hO M p1 1 (M 1 0)) dX9_isGreen_26 us_X9_64 rfl yk_X9_isWithin ⟨by decide, by decide⟩ (Nat.le_of_ble_eq_true rfl) rfl 29 rfl ?_
        intro x6
        refine g_if_eq 36 (by decide) 32 rfl dX9_isGreen_29 ?_ ?_
        · refine g_sub [] [] rfl ?_
          exact hk5 ()
        · refine g_iconst 1 33 rfl dX9_isGreen_32 (by decide) ?_
          refine g_goto 37 (by decide) dX9_isGreen_33 ?_
          refine g_sub [] [] rfl ?_
          exact hk3 1
def fX9_cycle (M : Mem) (p0 : Int32) : Option ((Nat ⊕ Int32) × Mem) := clp (fX9_isWithin M p0 30 120) (fun x1 => clpm M (fX9_need M x1 2) (fun u2 => clp (fX6_canTakeCycle M 1 p0) (fun x3 => clpm M (fX9_need M x3 3) (fun u4 => cl (fX1_push M 1) (fun u5 M6 => bnd (M6 1 0) (fun x7 => bnd (mset M6 1 0 p0) (fun M8 => some (.inr x7, M8))))))))
set_option maxRecDepth 100000 in
set_option maxHeartbeats 4000000 in
theorem c_X9_cycle {Ω : Wd} (l : Launch) (hO : OkW Ω) (hX : LX Ω) (hl0 : l.stackTraces = false) (hT : ThrOk Ω)  (M : Mem) (p0 : Int32) : ∀ r, fX9_cycle M p0 = some r → Ct l yX9_cycle (.code yX9_cycle cX9_cycle 3 (some .int)) 8 161 Ω [.ref (wA Ω 0), .int p0] M (cvIX r) := by
  refine ofG [(0, .ref (wA Ω 0)), (1, .int p0)] hO (by decide) rfl (Nat.le_of_ble_eq_true rfl) rfl ?_
  intro p e s m args below meth c
  unfold fX9_cycle
  refine g_iload_n 1 rfl rfl 1 rfl dX9_cycle_0 ?_
  refine g_bipush 30 3 rfl dX9_cycle_1 (by decide) ?_
  refine g_bipush 120 5 rfl dX9_cycle_3 (by decide) ?_
  refine p_cSI [.int p0, .int 30, .int 120] [] (c_X9_isWithin l hO M p0 30 120) dX9_cycle_5 us_X9_64 rfl yk_X9_isWithin ⟨by decide, by decide⟩ (Nat.le_of_ble_eq_true rfl) rfl 8 rfl ?_
  intro x1
  refine g_iconst 2 9 rfl dX9_cycle_8 (by decide) ?_
  refine q_xSV [.int x1, .int 2] [] (c_X9_need l hO hl0 hT M x1 2) (fun _ _ => rfl) dX9_cycle_9 us_X9_68 rfl yk_X9_need ⟨by decide, by decide⟩ (Nat.le_of_ble_eq_true rfl) rfl 12 rfl ?_
  intro u2
  refine g_aload_n 0 rfl rfl 13 rfl dX9_cycle_12 ?_
  refine w_getR (lx_X hX) rfl in_X9 0 (by decide) wf_X9_12 1 rfl 16 rfl dX9_cycle_13 ?_
  refine g_iload_n 1 rfl rfl 17 rfl dX9_cycle_16 ?_
  refine p_cVI 1 [.int p0] [] (c_X6_canTakeCycle l hO hX isS_1 M p0) dX9_cycle_17 uv_X9_72 rfl yk_X6_canTakeCycle ⟨by decide, by decide⟩ (lx_S hX isS_1).1 (lx_S hX isS_1).2 rfl (Nat.le_of_ble_eq_true rfl) rfl 20 rfl ?_
  intro x3
  refine g_iconst 3 21 rfl dX9_cycle_20 (by decide) ?_
  refine q_xSV [.int x3, .int 3] [] (c_X9_need l hO hl0 hT M x3 3) (fun _ _ => rfl) dX9_cycle_21 us_X9_68 rfl yk_X9_need ⟨by decide, by decide⟩ (Nat.le_of_ble_eq_true rfl) rfl 24 rfl ?_
  intro u4
  refine g_aload_n 0 rfl rfl 25 rfl dX9_cycle_24 ?_
  refine w_getR (lx_X hX) rfl in_X9 3 (by decide) wf_X9_25 463 rfl 28 rfl dX9_cycle_25 ?_
  refine g_aload_n 0 rfl rfl 29 rfl dX9_cycle_28 ?_
  refine w_getR (lx_X hX) rfl in_X9 0 (by decide) wf_X9_12 1 rfl 32 rfl dX9_cycle_29 ?_
  refine g_cVV 463 [.ref (wA Ω 1)] [] (c_X1_push l hO hX isS_1 M) dX9_cycle_32 uv_X9_76 rfl yk_X1_push ⟨by decide, by decide⟩ (lx_H hX).1 (lx_H hX).2 rfl (Nat.le_of_ble_eq_true rfl) rfl 35 rfl ?_
  intro u5 M6
  refine g_aload_n 0 rfl rfl 36 rfl dX9_cycle_35 ?_
  refine w_getR (lx_X hX) rfl in_X9 0 (by decide) wf_X9_12 1 rfl 39 rfl dX9_cycle_36 ?_
  refine w_get (lx_S hX isS_1) rfl in_X6 0 (by decide) wf_X9_80 rfl 42 rfl dX9_cycle_39 ?_
  refine g_istore_n (fun x7 => [(2, .int x7), (0, .ref (wA Ω 0)), (1, .int p0)]) rfl 43 rfl dX9_cycle_42 (by decide) (fun _ => rfl) ?_
  intro x7
  refine g_aload_n 1 rfl rfl 44 rfl dX9_cycle_43 ?_
  refine w_getR (lx_X hX) rfl in_X9 0 (by decide) wf_X9_12 1 rfl 47 rfl dX9_cycle_44 ?_
  refine g_iload_n 2 rfl rfl 48 rfl dX9_cycle_47 ?_
  refine w_put (lx_S hX isS_1) rfl in_X6 0 (by decide) wf_X9_80 tyX6 tyX6_ok nmX6 rfl rfl rfl rfl 51 rfl dX9_cycle_48 ?_
  intro M8
  refine g_iload_n 0 rfl rfl 52 rfl dX9_cycle_51 ?_
  exact g_iretX rfl dX9_cycle_52
def fX9_speed (M : Mem) (p0 : Int32) : Option ((Nat ⊕ Int32) × Mem) := clp (fX9_isWithin M p0 5 25) (fun x1 => clpm M (fX9_need M x1 2) (fun u2 => cl (fX1_push M 1) (fun u3 M4 => bnd (M4 1 1) (fun x5 => bnd (mset M4 1 1 p0) (fun M6 => some (.inr x5, M6))))))
set_option maxRecDepth 100000 in
set_option maxHeartbeats 4000000 in
theorem c_X9_speed {Ω : Wd} (l : Launch) (hO : OkW Ω) (hX : LX Ω) (hl0 : l.stackTraces = false) (hT : ThrOk Ω)  (M : Mem) (p0 : Int32) : ∀ r, fX9_speed M p0 = some r → Ct l yX9_speed (.code yX9_speed cX9_speed 3 (some .int)) 8 161 Ω [.ref (wA Ω 0), .int p0] M (cvIX r) := by
  refine ofG [(0, .ref (wA Ω 0)), (1, .int p0)] hO (by decide) rfl (Nat.le_of_ble_eq_true rfl) rfl ?_
  intro p e s m args below meth c
  unfold fX9_speed
  refine g_iload_n 1 rfl rfl 1 rfl dX9_speed_0 ?_
  refine g_iconst 5 2 rfl dX9_speed_1 (by decide) ?_
  refine g_bipush 25 4 rfl dX9_speed_2 (by decide) ?_
  refine p_cSI [.int p0, .int 5, .int 25] [] (c_X9_isWithin l hO M p0 5 25) dX9_speed_4 us_X9_64 rfl yk_X9_isWithin ⟨by decide, by decide⟩ (Nat.le_of_ble_eq_true rfl) rfl 7 rfl ?_
  intro x1
  refine g_iconst 2 8 rfl dX9_speed_7 (by decide) ?_
  refine q_xSV [.int x1, .int 2] [] (c_X9_need l hO hl0 hT M x1 2) (fun _ _ => rfl) dX9_speed_8 us_X9_68 rfl yk_X9_need ⟨by decide, by decide⟩ (Nat.le_of_ble_eq_true rfl) rfl 11 rfl ?_
  intro u2
  refine g_aload_n 0 rfl rfl 12 rfl dX9_speed_11 ?_
  refine w_getR (lx_X hX) rfl in_X9 3 (by decide) wf_X9_25 463 rfl 15 rfl dX9_speed_12 ?_
  refine g_aload_n 0 rfl rfl 16 rfl dX9_speed_15 ?_
  refine w_getR (lx_X hX) rfl in_X9 0 (by decide) wf_X9_12 1 rfl 19 rfl dX9_speed_16 ?_
  refine g_cVV 463 [.ref (wA Ω 1)] [] (c_X1_push l hO hX isS_1 M) dX9_speed_19 uv_X9_76 rfl yk_X1_push ⟨by decide, by decide⟩ (lx_H hX).1 (lx_H hX).2 rfl (Nat.le_of_ble_eq_true rfl) rfl 22 rfl ?_
  intro u3 M4
  refine g_aload_n 0 rfl rfl 23 rfl dX9_speed_22 ?_
  refine w_getR (lx_X hX) rfl in_X9 0 (by decide) wf_X9_12 1 rfl 26 rfl dX9_speed_23 ?_
  refine w_get (lx_S hX isS_1) rfl in_X6 1 (by decide) wf_X9_83 rfl 29 rfl dX9_speed_26 ?_
  refine g_istore_n (fun x5 => [(2, .int x5), (0, .ref (wA Ω 0)), (1, .int p0)]) rfl 30 rfl dX9_speed_29 (by decide) (fun _ => rfl) ?_
  intro x5
  refine g_aload_n 1 rfl rfl 31 rfl dX9_speed_30 ?_
  refine w_getR (lx_X hX) rfl in_X9 0 (by decide) wf_X9_12 1 rfl 34 rfl dX9_speed_31 ?_
  refine g_iload_n 2 rfl rfl 35 rfl dX9_speed_34 ?_
  refine w_put (lx_S hX isS_1) rfl in_X6 1 (by decide) wf_X9_83 tyX6 tyX6_ok nmX6 rfl rfl rfl rfl 38 rfl dX9_speed_35 ?_
  intro M6
  refine g_iload_n 0 rfl rfl 39 rfl dX9_speed_38 ?_
  exact g_iretX rfl dX9_speed_39
def fX9_junction (M : Mem) (p0 : Int32) : Option ((Nat ⊕ Int32) × Mem) := clp (fX6_lastPosition M 1) (fun x1 => clp (fX9_isWithin M p0 (x1 + 1) 9999) (fun x2 => clpm M (fX9_need M x2 2) (fun u3 => jn (fun (a4 : Int32) => clpm M (fX9_need M a4 3) (fun u6 => cl (fX1_push M 1) (fun u7 M8 => cl (fX6_addJunction M8 1 p0) (fun x9 M10 => some (.inr x9, M10))))) (fun k5 => if 4 ≤ M 1 3 then (k5 0) else (k5 1)))))
set_option maxRecDepth 100000 in
set_option maxHeartbeats 4000000 in
theorem c_X9_junction {Ω : Wd} (l : Launch) (hO : OkW Ω) (hX : LX Ω) (hl0 : l.stackTraces = false) (hT : ThrOk Ω)  (M : Mem) (p0 : Int32) : ∀ r, fX9_junction M p0 = some r → Ct l yX9_junction (.code yX9_junction cX9_junction 2 (some .int)) 8 161 Ω [.ref (wA Ω 0), .int p0] M (cvIX r) := by
  refine ofG [(0, .ref (wA Ω 0)), (1, .int p0)] hO (by decide) rfl (Nat.le_of_ble_eq_true rfl) rfl ?_
  intro p e s m args below meth c
  unfold fX9_junction
  refine g_iload_n 1 rfl rfl 1 rfl dX9_junction_0 ?_
  refine g_aload_n 0 rfl rfl 2 rfl dX9_junction_1 ?_
  refine w_getR (lx_X hX) rfl in_X9 0 (by decide) wf_X9_12 1 rfl 5 rfl dX9_junction_2 ?_
  refine p_cVI 1 [] [.int p0] (c_X6_lastPosition l hO hX isS_1 M) dX9_junction_5 uv_X9_86 rfl yk_X6_lastPosition ⟨by decide, by decide⟩ (lx_S hX isS_1).1 (lx_S hX isS_1).2 rfl (Nat.le_of_ble_eq_true rfl) rfl 8 rfl ?_
  intro x1
  refine g_iconst 1 9 rfl dX9_junction_8 (by decide) ?_
  refine g_iadd 10 rfl dX9_junction_9 ?_
  refine g_sipush 9999 13 rfl dX9_junction_10 (by decide) ?_
  refine p_cSI [.int p0, .int (x1 + 1), .int 9999] [] (c_X9_isWithin l hO M p0 (x1 + 1) 9999) dX9_junction_13 us_X9_64 rfl yk_X9_isWithin ⟨by decide, by decide⟩ (Nat.le_of_ble_eq_true rfl) rfl 16 rfl ?_
  intro x2
  refine g_iconst 2 17 rfl dX9_junction_16 (by decide) ?_
  refine q_xSV [.int x2, .int 2] [] (c_X9_need l hO hl0 hT M x2 2) (fun _ _ => rfl) dX9_junction_17 us_X9_68 rfl yk_X9_need ⟨by decide, by decide⟩ (Nat.le_of_ble_eq_true rfl) rfl 20 rfl ?_
  intro u3
  refine g_aload_n 0 rfl rfl 21 rfl dX9_junction_20 ?_
  refine w_getR (lx_X hX) rfl in_X9 0 (by decide) wf_X9_12 1 rfl 24 rfl dX9_junction_21 ?_
  refine w_get (lx_S hX isS_1) rfl in_X6 3 (by decide) wf_X9_90 rfl 27 rfl dX9_junction_24 ?_
  refine g_iconst 4 28 rfl dX9_junction_27 (by decide) ?_
  refine g_join 36 (fun a4 => [(0, .ref (wA Ω 0)), (1, .int p0)]) (fun a4 => [.int a4]) (fun a4 => M) ?_ ?_
  · intro a4
    refine g_iconst 3 37 rfl dX9_junction_36 (by decide) ?_
    refine q_xSV [.int a4, .int 3] [] (c_X9_need l hO hl0 hT M a4 3) (fun _ _ => rfl) dX9_junction_37 us_X9_68 rfl yk_X9_need ⟨by decide, by decide⟩ (Nat.le_of_ble_eq_true rfl) rfl 40 rfl ?_
    intro u6
    refine g_aload_n 0 rfl rfl 41 rfl dX9_junction_40 ?_
    refine w_getR (lx_X hX) rfl in_X9 3 (by decide) wf_X9_25 463 rfl 44 rfl dX9_junction_41 ?_
    refine g_aload_n 0 rfl rfl 45 rfl dX9_junction_44 ?_
    refine w_getR (lx_X hX) rfl in_X9 0 (by decide) wf_X9_12 1 rfl 48 rfl dX9_junction_45 ?_
    refine g_cVV 463 [.ref (wA Ω 1)] [] (c_X1_push l hO hX isS_1 M) dX9_junction_48 uv_X9_76 rfl yk_X1_push ⟨by decide, by decide⟩ (lx_H hX).1 (lx_H hX).2 rfl (Nat.le_of_ble_eq_true rfl) rfl 51 rfl ?_
    intro u7 M8
    refine g_aload_n 0 rfl rfl 52 rfl dX9_junction_51 ?_
    refine w_getR (lx_X hX) rfl in_X9 0 (by decide) wf_X9_12 1 rfl 55 rfl dX9_junction_52 ?_
    refine g_iload_n 1 rfl rfl 56 rfl dX9_junction_55 ?_
    refine g_cVI 1 [.int p0] [] (c_X6_addJunction l hO hX isS_1 M8 p0) dX9_junction_56 uv_X9_93 rfl yk_X6_addJunction ⟨by decide, by decide⟩ (lx_S hX isS_1).1 (lx_S hX isS_1).2 rfl (Nat.le_of_ble_eq_true rfl) rfl 59 rfl ?_
    intro x9 M10
    exact g_iretX rfl dX9_junction_59
  · intro k5 hk5
    refine g_icmp_ge 35 (by decide) 31 rfl dX9_junction_28 ?_ ?_
    · refine g_iconst 0 36 rfl dX9_junction_35 (by decide) ?_
      exact hk5 0
    · refine g_iconst 1 32 rfl dX9_junction_31 (by decide) ?_
      refine g_goto 36 (by decide) dX9_junction_32 ?_
      exact hk5 1
def fX9_told (M : Mem) (p0 : Int32) (p1 : Int32) : Option (Nat ⊕ Int32) := clpx (fX9_found M p0) (fun o1 => grd (isJb o1) (if p1 = 0 then (some (.inr (M o1 0))) else (if p1 = 1 then (some (.inr (M o1 1))) else (if p1 = 2 then (some (.inr (M o1 2))) else (if p1 = 3 then (clp (fX2_localSecond M o1 (M 1 2) (M 1 0)) (fun x4 => some (.inr x4))) else (if p1 = 4 then (some (.inr (M o1 3))) else (if p1 = 5 then (some (.inr (M o1 4))) else (if p1 = 6 then (clp (fX2_conflictCount M o1) (fun x3 => some (.inr x3))) else (if p1 = 7 then (clp (fX2_litSet M o1 (M 1 2) (M 1 0)) (fun x2 => some (.inr x2))) else (some (.inl 1)))))))))))
set_option maxRecDepth 100000 in
set_option maxHeartbeats 4000000 in
theorem c_X9_told {Ω : Wd} (l : Launch) (hO : OkW Ω) (hX : LX Ω) (hl0 : l.stackTraces = false) (hT : ThrOk Ω)  (M : Mem) (p0 : Int32) (p1 : Int32) : ∀ r, fX9_told M p0 p1 = some r → Ct l yX9_told (.code yX9_told cX9_told 4 (some .int)) 7 142 Ω [.ref (wA Ω 0), .int p0, .int p1] M ((cpIX M) r) := by
  refine ofG [(0, .ref (wA Ω 0)), (1, .int p0), (2, .int p1)] hO (by decide) rfl (Nat.le_of_ble_eq_true rfl) rfl ?_
  intro p e s m args below meth c
  unfold fX9_told
  refine g_aload_n 0 rfl rfl 1 rfl dX9_told_0 ?_
  refine g_iload_n 1 rfl rfl 2 rfl dX9_told_1 ?_
  refine p_xVR 0 [.int p0] [] (c_X9_found l hO hX hl0 hT M p0) (fun _ => rfl) dX9_told_2 uv_X9_115 rfl yk_X9_found ⟨by decide, by decide⟩ (lx_X hX).1 (lx_X hX).2 rfl (Nat.le_of_ble_eq_true rfl) rfl 5 rfl ?_
  intro o1
  refine g_grd (fun ho10 => ?_)
  have ho1 := isJb_of ho10
  refine g_astore_nA [(3, .ref (wA Ω o1)), (0, .ref (wA Ω 0)), (1, .int p0), (2, .int p1)] rfl 6 rfl dX9_told_5 (by decide) rfl ?_
  refine g_iload_n 3 rfl rfl 7 rfl dX9_told_6 ?_
  refine g_case ?_ ?_
  · intro h7_0
    refine g_tin (off := 45) 52 (by rw [h7_0]; decide) (by rw [h7_0]; decide) (by rw [h7_0]; rfl) (by decide) dX9_told_7 ?_
    refine g_aload_n 0 rfl rfl 53 rfl dX9_told_52 ?_
    refine w_get (lx_J hX ho1) rfl in_X2 0 (by decide) wf_X9_119 rfl 56 rfl dX9_told_53 ?_
    exact p_iretX rfl dX9_told_56
  · intro h7_0
    refine g_case ?_ ?_
    · intro h7_1
      refine g_tin (off := 50) 57 (by rw [h7_1]; decide) (by rw [h7_1]; decide) (by rw [h7_1]; rfl) (by decide) dX9_told_7 ?_
      refine g_aload_n 0 rfl rfl 58 rfl dX9_told_57 ?_
      refine w_get (lx_J hX ho1) rfl in_X2 1 (by decide) wf_X9_124 rfl 61 rfl dX9_told_58 ?_
      exact p_iretX rfl dX9_told_61
    · intro h7_1
      refine g_case ?_ ?_
      · intro h7_2
        refine g_tin (off := 55) 62 (by rw [h7_2]; decide) (by rw [h7_2]; decide) (by rw [h7_2]; rfl) (by decide) dX9_told_7 ?_
        refine g_aload_n 0 rfl rfl 63 rfl dX9_told_62 ?_
        refine w_get (lx_J hX ho1) rfl in_X2 2 (by decide) wf_X9_127 rfl 66 rfl dX9_told_63 ?_
        exact p_iretX rfl dX9_told_66
      · intro h7_2
        refine g_case ?_ ?_
        · intro h7_3
          refine g_tin (off := 60) 67 (by rw [h7_3]; decide) (by rw [h7_3]; decide) (by rw [h7_3]; rfl) (by decide) dX9_told_7 ?_
          refine g_aload_n 0 rfl rfl 68 rfl dX9_told_67 ?_
          refine g_aload_n 1 rfl rfl 69 rfl dX9_told_68 ?_
          refine w_getR (lx_X hX) rfl in_X9 0 (by decide) wf_X9_12 1 rfl 72 rfl dX9_told_69 ?_
          refine w_get (lx_S hX isS_1) rfl in_X6 2 (by decide) wf_X9_130 rfl 75 rfl dX9_told_72 ?_
          refine g_aload_n 1 rfl rfl 76 rfl dX9_told_75 ?_
          refine w_getR (lx_X hX) rfl in_X9 0 (by decide) wf_X9_12 1 rfl 79 rfl dX9_told_76 ?_
          refine w_get (lx_S hX isS_1) rfl in_X6 0 (by decide) wf_X9_80 rfl 82 rfl dX9_told_79 ?_
          refine p_cVI o1 [.int (M 1 2), .int (M 1 0)] [] (c_X2_localSecond l hO hX ho1 M (M 1 2) (M 1 0)) dX9_told_82 uv_X9_133 rfl yk_X2_localSecond ⟨by decide, by decide⟩ (lx_J hX ho1).1 (lx_J hX ho1).2 rfl (Nat.le_of_ble_eq_true rfl) rfl 85 rfl ?_
          intro x4
          exact p_iretX rfl dX9_told_85
        · intro h7_3
          refine g_case ?_ ?_
          · intro h7_4
            refine g_tin (off := 79) 86 (by rw [h7_4]; decide) (by rw [h7_4]; decide) (by rw [h7_4]; rfl) (by decide) dX9_told_7 ?_
            refine g_aload_n 0 rfl rfl 87 rfl dX9_told_86 ?_
            refine w_get (lx_J hX ho1) rfl in_X2 3 (by decide) wf_X9_136 rfl 90 rfl dX9_told_87 ?_
            exact p_iretX rfl dX9_told_90
          · intro h7_4
            refine g_case ?_ ?_
            · intro h7_5
              refine g_tin (off := 84) 91 (by rw [h7_5]; decide) (by rw [h7_5]; decide) (by rw [h7_5]; rfl) (by decide) dX9_told_7 ?_
              refine g_aload_n 0 rfl rfl 92 rfl dX9_told_91 ?_
              refine w_get (lx_J hX ho1) rfl in_X2 4 (by decide) wf_X9_139 rfl 95 rfl dX9_told_92 ?_
              exact p_iretX rfl dX9_told_95
            · intro h7_5
              refine g_case ?_ ?_
              · intro h7_6
                refine g_tin (off := 89) 96 (by rw [h7_6]; decide) (by rw [h7_6]; decide) (by rw [h7_6]; rfl) (by decide) dX9_told_7 ?_
                refine g_aload_n 0 rfl rfl 97 rfl dX9_told_96 ?_
                refine p_cVI o1 [] [] (c_X2_conflictCount l hO hX ho1 M) dX9_told_97 uv_X9_142 rfl yk_X2_conflictCount ⟨by decide, by decide⟩ (lx_J hX ho1).1 (lx_J hX ho1).2 rfl (Nat.le_of_ble_eq_true rfl) rfl 100 rfl ?_
                intro x3
                exact p_iretX rfl dX9_told_100
              · intro h7_6
                refine g_case ?_ ?_
                · intro h7_7
                  refine g_tin (off := 94) 101 (by rw [h7_7]; decide) (by rw [h7_7]; decide) (by rw [h7_7]; rfl) (by decide) dX9_told_7 ?_
                  refine g_aload_n 0 rfl rfl 102 rfl dX9_told_101 ?_
                  refine g_aload_n 1 rfl rfl 103 rfl dX9_told_102 ?_
                  refine w_getR (lx_X hX) rfl in_X9 0 (by decide) wf_X9_12 1 rfl 106 rfl dX9_told_103 ?_
                  refine w_get (lx_S hX isS_1) rfl in_X6 2 (by decide) wf_X9_130 rfl 109 rfl dX9_told_106 ?_
                  refine g_aload_n 1 rfl rfl 110 rfl dX9_told_109 ?_
                  refine w_getR (lx_X hX) rfl in_X9 0 (by decide) wf_X9_12 1 rfl 113 rfl dX9_told_110 ?_
                  refine w_get (lx_S hX isS_1) rfl in_X6 0 (by decide) wf_X9_80 rfl 116 rfl dX9_told_113 ?_
                  refine p_cVI o1 [.int (M 1 2), .int (M 1 0)] [] (c_X2_litSet l hO hX ho1 M (M 1 2) (M 1 0)) dX9_told_116 uv_X9_145 rfl yk_X2_litSet ⟨by decide, by decide⟩ (lx_J hX ho1).1 (lx_J hX ho1).2 rfl (Nat.le_of_ble_eq_true rfl) rfl 119 rfl ?_
                  intro x2
                  exact p_iretX rfl dX9_told_119
                · intro h7_7
                  refine g_tout 120 (ts_out (fun z h1 h2 e => by have q0 := ts_ne (z := 0) h7_0 (by decide); have q1 := ts_ne (z := 1) h7_1 (by decide); have q2 := ts_ne (z := 2) h7_2 (by decide); have q3 := ts_ne (z := 3) h7_3 (by decide); have q4 := ts_ne (z := 4) h7_4 (by decide); have q5 := ts_ne (z := 5) h7_5 (by decide); have q6 := ts_ne (z := 6) h7_6 (by decide); have q7 := ts_ne (z := 7) h7_7 (by decide); omega)) (by decide) dX9_told_7 ?_
                  exact g_throw hl0 hT 1 148 150 152 "what is not 0 to 7" xNm xf_1 xNm_ok wj_X9_148 wxi_1 (List.mem_of_getElem? (i := 6) rfl) xa_1 xg_1 dX9_told_120 dX9_told_123 dX9_told_124 dX9_told_126 dX9_told_129 (by decide) (Nat.le_of_ble_eq_true rfl) rfl
def fX9_group (M : Mem) (p0 : Int32) (p1 : Int32) (p2 : Int32) (p3 : Int32) : Option ((Nat ⊕ Int32) × Mem) := clpm M (fX9_found M p0) (fun o1 => grd (isJb o1) (clp (fX9_isWithin M p1 0 2) (fun x2 => jn (fun (a3 : Int32) => clpm M (fX9_need M a3 2) (fun u5 => jn (fun (a6 : Int32) => clpm M (fX9_need M a6 3) (fun u8 => cl (fX1_push M 1) (fun u9 M10 => cl (fX2_addGroup M10 o1 p1 p2 p3) (fun x11 M12 => some (.inr x11, M12))))) (fun k7 => if 6 ≤ M o1 2 then (k7 0) else (k7 1)))) (fun k4 => jn (fun (a13 : Unit) => k4 0) (fun k14 => if x2 = 0 then (k14 ()) else (clp (fX9_isWithin M p2 4 30) (fun x15 => if x15 = 0 then (k14 ()) else (k4 1))))))))
set_option maxRecDepth 100000 in
set_option maxHeartbeats 4000000 in
theorem c_X9_group {Ω : Wd} (l : Launch) (hO : OkW Ω) (hX : LX Ω) (hl0 : l.stackTraces = false) (hT : ThrOk Ω)  (M : Mem) (p0 : Int32) (p1 : Int32) (p2 : Int32) (p3 : Int32) : ∀ r, fX9_group M p0 p1 p2 p3 = some r → Ct l yX9_group (.code yX9_group cX9_group 6 (some .int)) 8 161 Ω [.ref (wA Ω 0), .int p0, .int p1, .int p2, .int p3] M (cvIX r) := by
  refine ofG [(0, .ref (wA Ω 0)), (1, .int p0), (2, .int p1), (3, .int p2), (4, .int p3)] hO (by decide) rfl (Nat.le_of_ble_eq_true rfl) rfl ?_
  intro p e s m args below meth c
  unfold fX9_group
  refine g_aload_n 0 rfl rfl 1 rfl dX9_group_0 ?_
  refine g_iload_n 1 rfl rfl 2 rfl dX9_group_1 ?_
  refine q_xVR 0 [.int p0] [] (c_X9_found l hO hX hl0 hT M p0) (fun _ _ => rfl) dX9_group_2 uv_X9_115 rfl yk_X9_found ⟨by decide, by decide⟩ (lx_X hX).1 (lx_X hX).2 rfl (Nat.le_of_ble_eq_true rfl) rfl 5 rfl ?_
  intro o1
  refine g_grd (fun ho10 => ?_)
  have ho1 := isJb_of ho10
  refine g_astoreA [(5, .ref (wA Ω o1)), (0, .ref (wA Ω 0)), (1, .int p0), (2, .int p1), (3, .int p2), (4, .int p3)] 7 rfl dX9_group_5 (by decide) rfl ?_
  refine g_iload_n 3 rfl rfl 8 rfl dX9_group_7 ?_
  refine g_iconst 0 9 rfl dX9_group_8 (by decide) ?_
  refine g_iconst 2 10 rfl dX9_group_9 (by decide) ?_
  refine p_cSI [.int p1, .int 0, .int 2] [] (c_X9_isWithin l hO M p1 0 2) dX9_group_10 us_X9_64 rfl yk_X9_isWithin ⟨by decide, by decide⟩ (Nat.le_of_ble_eq_true rfl) rfl 13 rfl ?_
  intro x2
  refine g_join 31 (fun a3 => [(0, .ref (wA Ω 0)), (2, .int p1), (3, .int p2), (4, .int p3), (5, .ref (wA Ω o1))]) (fun a3 => [.int a3]) (fun a3 => M) ?_ ?_
  · intro a3
    refine g_iconst 2 32 rfl dX9_group_31 (by decide) ?_
    refine q_xSV [.int a3, .int 2] [] (c_X9_need l hO hl0 hT M a3 2) (fun _ _ => rfl) dX9_group_32 us_X9_68 rfl yk_X9_need ⟨by decide, by decide⟩ (Nat.le_of_ble_eq_true rfl) rfl 35 rfl ?_
    intro u5
    refine g_aload 4 rfl 37 rfl dX9_group_35 ?_
    refine w_get (lx_J hX ho1) rfl in_X2 2 (by decide) wf_X9_127 rfl 40 rfl dX9_group_37 ?_
    refine g_bipush 6 42 rfl dX9_group_40 (by decide) ?_
    refine g_join 50 (fun a6 => [(0, .ref (wA Ω 0)), (2, .int p1), (3, .int p2), (4, .int p3), (5, .ref (wA Ω o1))]) (fun a6 => [.int a6]) (fun a6 => M) ?_ ?_
    · intro a6
      refine g_iconst 3 51 rfl dX9_group_50 (by decide) ?_
      refine q_xSV [.int a6, .int 3] [] (c_X9_need l hO hl0 hT M a6 3) (fun _ _ => rfl) dX9_group_51 us_X9_68 rfl yk_X9_need ⟨by decide, by decide⟩ (Nat.le_of_ble_eq_true rfl) rfl 54 rfl ?_
      intro u8
      refine g_aload_n 0 rfl rfl 55 rfl dX9_group_54 ?_
      refine w_getR (lx_X hX) rfl in_X9 3 (by decide) wf_X9_25 463 rfl 58 rfl dX9_group_55 ?_
      refine g_aload_n 0 rfl rfl 59 rfl dX9_group_58 ?_
      refine w_getR (lx_X hX) rfl in_X9 0 (by decide) wf_X9_12 1 rfl 62 rfl dX9_group_59 ?_
      refine g_cVV 463 [.ref (wA Ω 1)] [] (c_X1_push l hO hX isS_1 M) dX9_group_62 uv_X9_76 rfl yk_X1_push ⟨by decide, by decide⟩ (lx_H hX).1 (lx_H hX).2 rfl (Nat.le_of_ble_eq_true rfl) rfl 65 rfl ?_
      intro u9 M10
      refine g_aload 4 rfl 67 rfl dX9_group_65 ?_
      refine g_iload_n 1 rfl rfl 68 rfl dX9_group_67 ?_
      refine g_iload_n 2 rfl rfl 69 rfl dX9_group_68 ?_
      refine g_iload 3 rfl 71 rfl dX9_group_69 ?_
      refine g_cVI o1 [.int p1, .int p2, .int p3] [] (c_X2_addGroup l hO hX ho1 M10 p1 p2 p3) dX9_group_71 uv_X9_155 rfl yk_X2_addGroup ⟨by decide, by decide⟩ (lx_J hX ho1).1 (lx_J hX ho1).2 rfl (Nat.le_of_ble_eq_true rfl) rfl 74 rfl ?_
      intro x11 M12
      exact g_iretX rfl dX9_group_74
    · intro k7 hk7
      refine g_icmp_ge 49 (by decide) 45 rfl dX9_group_42 ?_ ?_
      · refine g_iconst 0 50 rfl dX9_group_49 (by decide) ?_
        exact hk7 0
      · refine g_iconst 1 46 rfl dX9_group_45 (by decide) ?_
        refine g_goto 50 (by decide) dX9_group_46 ?_
        exact hk7 1
  · intro k4 hk4
    refine g_join 30 (fun a13 => [(0, .ref (wA Ω 0)), (2, .int p1), (3, .int p2), (4, .int p3), (5, .ref (wA Ω o1))]) (fun a13 => []) (fun a13 => M) ?_ ?_
    · intro a13
      refine g_iconst 0 31 rfl dX9_group_30 (by decide) ?_
      exact hk4 0
    · intro k14 hk14
      refine g_if_eq 30 (by decide) 16 rfl dX9_group_13 ?_ ?_
      · refine g_sub [(0, .ref (wA Ω 0)), (2, .int p1), (3, .int p2), (4, .int p3), (5, .ref (wA Ω o1))] [1, 3, 4, 5, 0] rfl ?_
        exact hk14 ()
      · refine g_iload_n 4 rfl rfl 17 rfl dX9_group_16 ?_
        refine g_iconst 4 18 rfl dX9_group_17 (by decide) ?_
        refine g_bipush 30 20 rfl dX9_group_18 (by decide) ?_
        refine p_cSI [.int p2, .int 4, .int 30] [] (c_X9_isWithin l hO M p2 4 30) dX9_group_20 us_X9_64 rfl yk_X9_isWithin ⟨by decide, by decide⟩ (Nat.le_of_ble_eq_true rfl) rfl 23 rfl ?_
        intro x15
        refine g_if_eq 30 (by decide) 26 rfl dX9_group_23 ?_ ?_
        · refine g_sub [(0, .ref (wA Ω 0)), (2, .int p1), (3, .int p2), (4, .int p3), (5, .ref (wA Ω o1))] [1, 3, 4, 5, 0] rfl ?_
          exact hk14 ()
        · refine g_iconst 1 27 rfl dX9_group_26 (by decide) ?_
          refine g_goto 31 (by decide) dX9_group_27 ?_
          refine g_sub [(0, .ref (wA Ω 0)), (2, .int p1), (3, .int p2), (4, .int p3), (5, .ref (wA Ω o1))] [1, 3, 4, 5, 0] rfl ?_
          exact hk4 1
def fX9_shows (M : Mem) (p0 : Int32) (p1 : Int32) (p2 : Int32) : Option (Nat ⊕ Int32) := clpx (fX9_found M p0) (fun o1 => grd (isJb o1) (clp (fX9_isPlan M p1) (fun x2 => clpx (fX9_need M x2 1) (fun u3 => clp (fX9_isWithin M p2 0 ((M 1 0) - 1)) (fun x4 => clpx (fX9_need M x4 2) (fun u5 => clp (fX2_onSet M o1 p1 p2 (M 1 0)) (fun x6 => some (.inr x6))))))))
set_option maxRecDepth 100000 in
set_option maxHeartbeats 4000000 in
theorem c_X9_shows {Ω : Wd} (l : Launch) (hO : OkW Ω) (hX : LX Ω) (hl0 : l.stackTraces = false) (hT : ThrOk Ω)  (M : Mem) (p0 : Int32) (p1 : Int32) (p2 : Int32) : ∀ r, fX9_shows M p0 p1 p2 = some r → Ct l yX9_shows (.code yX9_shows cX9_shows 5 (some .int)) 8 161 Ω [.ref (wA Ω 0), .int p0, .int p1, .int p2] M ((cpIX M) r) := by
  refine ofG [(0, .ref (wA Ω 0)), (1, .int p0), (2, .int p1), (3, .int p2)] hO (by decide) rfl (Nat.le_of_ble_eq_true rfl) rfl ?_
  intro p e s m args below meth c
  unfold fX9_shows
  refine g_aload_n 0 rfl rfl 1 rfl dX9_shows_0 ?_
  refine g_iload_n 1 rfl rfl 2 rfl dX9_shows_1 ?_
  refine p_xVR 0 [.int p0] [] (c_X9_found l hO hX hl0 hT M p0) (fun _ => rfl) dX9_shows_2 uv_X9_115 rfl yk_X9_found ⟨by decide, by decide⟩ (lx_X hX).1 (lx_X hX).2 rfl (Nat.le_of_ble_eq_true rfl) rfl 5 rfl ?_
  intro o1
  refine g_grd (fun ho10 => ?_)
  have ho1 := isJb_of ho10
  refine g_astoreA [(4, .ref (wA Ω o1)), (0, .ref (wA Ω 0)), (1, .int p0), (2, .int p1), (3, .int p2)] 7 rfl dX9_shows_5 (by decide) rfl ?_
  refine g_iload_n 3 rfl rfl 8 rfl dX9_shows_7 ?_
  refine p_cSI [.int p1] [] (c_X9_isPlan l hO M p1) dX9_shows_8 us_X9_222 rfl yk_X9_isPlan ⟨by decide, by decide⟩ (Nat.le_of_ble_eq_true rfl) rfl 11 rfl ?_
  intro x2
  refine g_iconst 1 12 rfl dX9_shows_11 (by decide) ?_
  refine p_xSV [.int x2, .int 1] [] (c_X9_need l hO hl0 hT M x2 1) (fun _ => rfl) dX9_shows_12 us_X9_68 rfl yk_X9_need ⟨by decide, by decide⟩ (Nat.le_of_ble_eq_true rfl) rfl 15 rfl ?_
  intro u3
  refine g_iload_n 4 rfl rfl 16 rfl dX9_shows_15 ?_
  refine g_iconst 0 17 rfl dX9_shows_16 (by decide) ?_
  refine g_aload_n 1 rfl rfl 18 rfl dX9_shows_17 ?_
  refine w_getR (lx_X hX) rfl in_X9 0 (by decide) wf_X9_12 1 rfl 21 rfl dX9_shows_18 ?_
  refine w_get (lx_S hX isS_1) rfl in_X6 0 (by decide) wf_X9_80 rfl 24 rfl dX9_shows_21 ?_
  refine g_iconst 1 25 rfl dX9_shows_24 (by decide) ?_
  refine g_isub 26 rfl dX9_shows_25 ?_
  refine p_cSI [.int p2, .int 0, .int ((M 1 0) - 1)] [] (c_X9_isWithin l hO M p2 0 ((M 1 0) - 1)) dX9_shows_26 us_X9_64 rfl yk_X9_isWithin ⟨by decide, by decide⟩ (Nat.le_of_ble_eq_true rfl) rfl 29 rfl ?_
  intro x4
  refine g_iconst 2 30 rfl dX9_shows_29 (by decide) ?_
  refine p_xSV [.int x4, .int 2] [] (c_X9_need l hO hl0 hT M x4 2) (fun _ => rfl) dX9_shows_30 us_X9_68 rfl yk_X9_need ⟨by decide, by decide⟩ (Nat.le_of_ble_eq_true rfl) rfl 33 rfl ?_
  intro u5
  refine g_aload 0 rfl 35 rfl dX9_shows_33 ?_
  refine g_iload_n 3 rfl rfl 36 rfl dX9_shows_35 ?_
  refine g_iload_n 4 rfl rfl 37 rfl dX9_shows_36 ?_
  refine g_aload_n 1 rfl rfl 38 rfl dX9_shows_37 ?_
  refine w_getR (lx_X hX) rfl in_X9 0 (by decide) wf_X9_12 1 rfl 41 rfl dX9_shows_38 ?_
  refine w_get (lx_S hX isS_1) rfl in_X6 0 (by decide) wf_X9_80 rfl 44 rfl dX9_shows_41 ?_
  refine p_cVI o1 [.int p1, .int p2, .int (M 1 0)] [] (c_X2_onSet l hO hX ho1 M p1 p2 (M 1 0)) dX9_shows_44 uv_X9_261 rfl yk_X2_onSet ⟨by decide, by decide⟩ (lx_J hX ho1).1 (lx_J hX ho1).2 rfl (Nat.le_of_ble_eq_true rfl) rfl 47 rfl ?_
  intro x6
  exact p_iretX rfl dX9_shows_47
def fX9_picture (M : Mem) (p0 : Int32) (p1 : Int32) (p2 : Int32) : Option (Nat ⊕ Int32) := clpx (fX9_found M p0) (fun o1 => grd (isJb o1) (clp (fX9_isPlan M p1) (fun x2 => clpx (fX9_need M x2 1) (fun u3 => clp (fX2_pictureAt M o1 p1 p2 (M 1 0)) (fun x4 => jn (fun (a5 : Int32) => clpx (fX9_need M a5 5) (fun u7 => some (.inr x4))) (fun k6 => if x4 = (-1) then (k6 0) else (k6 1)))))))
set_option maxRecDepth 100000 in
set_option maxHeartbeats 4000000 in
theorem c_X9_picture {Ω : Wd} (l : Launch) (hO : OkW Ω) (hX : LX Ω) (hl0 : l.stackTraces = false) (hT : ThrOk Ω)  (M : Mem) (p0 : Int32) (p1 : Int32) (p2 : Int32) : ∀ r, fX9_picture M p0 p1 p2 = some r → Ct l yX9_picture (.code yX9_picture cX9_picture 6 (some .int)) 8 161 Ω [.ref (wA Ω 0), .int p0, .int p1, .int p2] M ((cpIX M) r) := by
  refine ofG [(0, .ref (wA Ω 0)), (1, .int p0), (2, .int p1), (3, .int p2)] hO (by decide) rfl (Nat.le_of_ble_eq_true rfl) rfl ?_
  intro p e s m args below meth c
  unfold fX9_picture
  refine g_aload_n 0 rfl rfl 1 rfl dX9_picture_0 ?_
  refine g_iload_n 1 rfl rfl 2 rfl dX9_picture_1 ?_
  refine p_xVR 0 [.int p0] [] (c_X9_found l hO hX hl0 hT M p0) (fun _ => rfl) dX9_picture_2 uv_X9_115 rfl yk_X9_found ⟨by decide, by decide⟩ (lx_X hX).1 (lx_X hX).2 rfl (Nat.le_of_ble_eq_true rfl) rfl 5 rfl ?_
  intro o1
  refine g_grd (fun ho10 => ?_)
  have ho1 := isJb_of ho10
  refine g_astoreA [(4, .ref (wA Ω o1)), (0, .ref (wA Ω 0)), (1, .int p0), (2, .int p1), (3, .int p2)] 7 rfl dX9_picture_5 (by decide) rfl ?_
  refine g_iload_n 3 rfl rfl 8 rfl dX9_picture_7 ?_
  refine p_cSI [.int p1] [] (c_X9_isPlan l hO M p1) dX9_picture_8 us_X9_222 rfl yk_X9_isPlan ⟨by decide, by decide⟩ (Nat.le_of_ble_eq_true rfl) rfl 11 rfl ?_
  intro x2
  refine g_iconst 1 12 rfl dX9_picture_11 (by decide) ?_
  refine p_xSV [.int x2, .int 1] [] (c_X9_need l hO hl0 hT M x2 1) (fun _ => rfl) dX9_picture_12 us_X9_68 rfl yk_X9_need ⟨by decide, by decide⟩ (Nat.le_of_ble_eq_true rfl) rfl 15 rfl ?_
  intro u3
  refine g_aload 0 rfl 17 rfl dX9_picture_15 ?_
  refine g_iload_n 3 rfl rfl 18 rfl dX9_picture_17 ?_
  refine g_iload_n 4 rfl rfl 19 rfl dX9_picture_18 ?_
  refine g_aload_n 1 rfl rfl 20 rfl dX9_picture_19 ?_
  refine w_getR (lx_X hX) rfl in_X9 0 (by decide) wf_X9_12 1 rfl 23 rfl dX9_picture_20 ?_
  refine w_get (lx_S hX isS_1) rfl in_X6 0 (by decide) wf_X9_80 rfl 26 rfl dX9_picture_23 ?_
  refine p_cVI o1 [.int p1, .int p2, .int (M 1 0)] [] (c_X2_pictureAt l hO hX ho1 M p1 p2 (M 1 0)) dX9_picture_26 uv_X9_264 rfl yk_X2_pictureAt ⟨by decide, by decide⟩ (lx_J hX ho1).1 (lx_J hX ho1).2 rfl (Nat.le_of_ble_eq_true rfl) rfl 29 rfl ?_
  intro x4
  refine g_istoreA [(5, .int x4), (4, .ref (wA Ω o1)), (0, .ref (wA Ω 0)), (1, .int p0), (2, .int p1), (3, .int p2)] 31 rfl dX9_picture_29 (by decide) rfl ?_
  refine g_iload 0 rfl 33 rfl dX9_picture_31 ?_
  refine g_iconst (-1) 34 rfl dX9_picture_33 (by decide) ?_
  refine g_join 42 (fun a5 => [(5, .int x4)]) (fun a5 => [.int a5]) (fun a5 => M) ?_ ?_
  · intro a5
    refine g_iconst 5 43 rfl dX9_picture_42 (by decide) ?_
    refine p_xSV [.int a5, .int 5] [] (c_X9_need l hO hl0 hT M a5 5) (fun _ => rfl) dX9_picture_43 us_X9_68 rfl yk_X9_need ⟨by decide, by decide⟩ (Nat.le_of_ble_eq_true rfl) rfl 46 rfl ?_
    intro u7
    refine g_iload 0 rfl 48 rfl dX9_picture_46 ?_
    exact p_iretX rfl dX9_picture_48
  · intro k6 hk6
    refine g_icmp_eq 41 (by decide) 37 rfl dX9_picture_34 ?_ ?_
    · refine g_iconst 0 42 rfl dX9_picture_41 (by decide) ?_
      refine g_sub [(5, .int x4)] [0] rfl ?_
      exact hk6 0
    · refine g_iconst 1 38 rfl dX9_picture_37 (by decide) ?_
      refine g_goto 42 (by decide) dX9_picture_38 ?_
      refine g_sub [(5, .int x4)] [0] rfl ?_
      exact hk6 1
def fX9_refusal (M : Mem)  : Option (Nat ⊕ Int32) := jn (fun (a1 : Int32) => clpx (fX9_need M a1 5) (fun u3 => some (.inr (M 0 9)))) (fun k2 => if M 0 9 = 0 then (k2 0) else (k2 1))
set_option maxRecDepth 100000 in
set_option maxHeartbeats 4000000 in
theorem c_X9_refusal {Ω : Wd} (l : Launch) (hO : OkW Ω) (hX : LX Ω) (hl0 : l.stackTraces = false) (hT : ThrOk Ω)  (M : Mem)  : ∀ r, fX9_refusal M  = some r → Ct l yX9_refusal (.code yX9_refusal cX9_refusal 1 (some .int)) 8 161 Ω [.ref (wA Ω 0)] M ((cpIX M) r) := by
  refine ofG [(0, .ref (wA Ω 0))] hO (by decide) rfl (Nat.le_of_ble_eq_true rfl) rfl ?_
  intro p e s m args below meth c
  unfold fX9_refusal
  refine g_aload_n 0 rfl rfl 1 rfl dX9_refusal_0 ?_
  refine w_get (lx_X hX) rfl in_X9 9 (by decide) wf_X9_57 rfl 4 rfl dX9_refusal_1 ?_
  refine g_join 12 (fun a1 => [(0, .ref (wA Ω 0))]) (fun a1 => [.int a1]) (fun a1 => M) ?_ ?_
  · intro a1
    refine g_iconst 5 13 rfl dX9_refusal_12 (by decide) ?_
    refine p_xSV [.int a1, .int 5] [] (c_X9_need l hO hl0 hT M a1 5) (fun _ => rfl) dX9_refusal_13 us_X9_68 rfl yk_X9_need ⟨by decide, by decide⟩ (Nat.le_of_ble_eq_true rfl) rfl 16 rfl ?_
    intro u3
    refine g_aload_n 0 rfl rfl 17 rfl dX9_refusal_16 ?_
    refine w_get (lx_X hX) rfl in_X9 9 (by decide) wf_X9_57 rfl 20 rfl dX9_refusal_17 ?_
    exact p_iretX rfl dX9_refusal_20
  · intro k2 hk2
    refine g_if_eq 11 (by decide) 7 rfl dX9_refusal_4 ?_ ?_
    · refine g_iconst 0 12 rfl dX9_refusal_11 (by decide) ?_
      exact hk2 0
    · refine g_iconst 1 8 rfl dX9_refusal_7 (by decide) ?_
      refine g_goto 12 (by decide) dX9_refusal_8 ?_
      exact hk2 1
def fX9_trip (M : Mem) (p0 : Int32) (p1 : Int32) (p2 : Int32) : Option (Nat ⊕ Int32) := clp (fX9_isDirection M p0) (fun x1 => jn (fun (a2 : Int32) => clpx (fX9_need M a2 2) (fun u4 => clp (fX7_arePossible M 1 p0) (fun x5 => clpx (fX9_need M x5 5) (fun u6 => clp (fX7_numberOf M 1 p0 p1 p2) (fun x7 => some (.inr x7)))))) (fun k3 => jn (fun (a8 : Unit) => k3 0) (fun k9 => if x1 = 0 then (k9 ()) else (clp (fX9_isWithin M p1 0 99999) (fun x10 => if x10 = 0 then (k9 ()) else (clp (fX9_isWithin M p2 0 2) (fun x11 => if x11 = 0 then (k9 ()) else (k3 1))))))))
set_option maxRecDepth 100000 in
set_option maxHeartbeats 4000000 in
theorem c_X9_trip {Ω : Wd} (l : Launch) (hO : OkW Ω) (hX : LX Ω) (hl0 : l.stackTraces = false) (hT : ThrOk Ω)  (M : Mem) (p0 : Int32) (p1 : Int32) (p2 : Int32) : ∀ r, fX9_trip M p0 p1 p2 = some r → Ct l yX9_trip (.code yX9_trip cX9_trip 4 (some .int)) 8 161 Ω [.ref (wA Ω 0), .int p0, .int p1, .int p2] M ((cpIX M) r) := by
  refine ofG [(0, .ref (wA Ω 0)), (1, .int p0), (2, .int p1), (3, .int p2)] hO (by decide) rfl (Nat.le_of_ble_eq_true rfl) rfl ?_
  intro p e s m args below meth c
  unfold fX9_trip
  refine g_iload_n 1 rfl rfl 1 rfl dX9_trip_0 ?_
  refine p_cSI [.int p0] [] (c_X9_isDirection l hO M p0) dX9_trip_1 us_X9_267 rfl yk_X9_isDirection ⟨by decide, by decide⟩ (Nat.le_of_ble_eq_true rfl) rfl 4 rfl ?_
  intro x1
  refine g_join 32 (fun a2 => [(0, .ref (wA Ω 0)), (1, .int p0), (2, .int p1), (3, .int p2)]) (fun a2 => [.int a2]) (fun a2 => M) ?_ ?_
  · intro a2
    refine g_iconst 2 33 rfl dX9_trip_32 (by decide) ?_
    refine p_xSV [.int a2, .int 2] [] (c_X9_need l hO hl0 hT M a2 2) (fun _ => rfl) dX9_trip_33 us_X9_68 rfl yk_X9_need ⟨by decide, by decide⟩ (Nat.le_of_ble_eq_true rfl) rfl 36 rfl ?_
    intro u4
    refine g_aload_n 0 rfl rfl 37 rfl dX9_trip_36 ?_
    refine w_getR (lx_X hX) rfl in_X9 5 (by decide) wf_X9_39 470 rfl 40 rfl dX9_trip_37 ?_
    refine g_aload_n 0 rfl rfl 41 rfl dX9_trip_40 ?_
    refine w_getR (lx_X hX) rfl in_X9 0 (by decide) wf_X9_12 1 rfl 44 rfl dX9_trip_41 ?_
    refine g_iload_n 1 rfl rfl 45 rfl dX9_trip_44 ?_
    refine p_cVI 470 [.ref (wA Ω 1), .int p0] [] (c_X7_arePossible l hO hX isS_1 M p0) dX9_trip_45 uv_X9_271 rfl yk_X7_arePossible ⟨by decide, by decide⟩ (lx_T hX).1 (lx_T hX).2 rfl (Nat.le_of_ble_eq_true rfl) rfl 48 rfl ?_
    intro x5
    refine g_iconst 5 49 rfl dX9_trip_48 (by decide) ?_
    refine p_xSV [.int x5, .int 5] [] (c_X9_need l hO hl0 hT M x5 5) (fun _ => rfl) dX9_trip_49 us_X9_68 rfl yk_X9_need ⟨by decide, by decide⟩ (Nat.le_of_ble_eq_true rfl) rfl 52 rfl ?_
    intro u6
    refine g_aload_n 0 rfl rfl 53 rfl dX9_trip_52 ?_
    refine w_getR (lx_X hX) rfl in_X9 5 (by decide) wf_X9_39 470 rfl 56 rfl dX9_trip_53 ?_
    refine g_aload_n 0 rfl rfl 57 rfl dX9_trip_56 ?_
    refine w_getR (lx_X hX) rfl in_X9 0 (by decide) wf_X9_12 1 rfl 60 rfl dX9_trip_57 ?_
    refine g_iload_n 1 rfl rfl 61 rfl dX9_trip_60 ?_
    refine g_iload_n 2 rfl rfl 62 rfl dX9_trip_61 ?_
    refine g_iload_n 3 rfl rfl 63 rfl dX9_trip_62 ?_
    refine p_cVI 470 [.ref (wA Ω 1), .int p0, .int p1, .int p2] [] (c_X7_numberOf l hO hX isS_1 M p0 p1 p2) dX9_trip_63 uv_X9_275 rfl yk_X7_numberOf ⟨by decide, by decide⟩ (lx_T hX).1 (lx_T hX).2 rfl (Nat.le_of_ble_eq_true rfl) rfl 66 rfl ?_
    intro x7
    exact p_iretX rfl dX9_trip_66
  · intro k3 hk3
    refine g_join 31 (fun a8 => [(0, .ref (wA Ω 0)), (1, .int p0), (2, .int p1), (3, .int p2)]) (fun a8 => []) (fun a8 => M) ?_ ?_
    · intro a8
      refine g_iconst 0 32 rfl dX9_trip_31 (by decide) ?_
      exact hk3 0
    · intro k9 hk9
      refine g_if_eq 31 (by decide) 7 rfl dX9_trip_4 ?_ ?_
      · exact hk9 ()
      · refine g_iload_n 2 rfl rfl 8 rfl dX9_trip_7 ?_
        refine g_iconst 0 9 rfl dX9_trip_8 (by decide) ?_
        refine g_ldc_w 99999 wq_X9_270 12 rfl dX9_trip_9 ?_
        refine p_cSI [.int p1, .int 0, .int 99999] [] (c_X9_isWithin l hO M p1 0 99999) dX9_trip_12 us_X9_64 rfl yk_X9_isWithin ⟨by decide, by decide⟩ (Nat.le_of_ble_eq_true rfl) rfl 15 rfl ?_
        intro x10
        refine g_if_eq 31 (by decide) 18 rfl dX9_trip_15 ?_ ?_
        · exact hk9 ()
        · refine g_iload_n 3 rfl rfl 19 rfl dX9_trip_18 ?_
          refine g_iconst 0 20 rfl dX9_trip_19 (by decide) ?_
          refine g_iconst 2 21 rfl dX9_trip_20 (by decide) ?_
          refine p_cSI [.int p2, .int 0, .int 2] [] (c_X9_isWithin l hO M p2 0 2) dX9_trip_21 us_X9_64 rfl yk_X9_isWithin ⟨by decide, by decide⟩ (Nat.le_of_ble_eq_true rfl) rfl 24 rfl ?_
          intro x11
          refine g_if_eq 31 (by decide) 27 rfl dX9_trip_24 ?_ ?_
          · exact hk9 ()
          · refine g_iconst 1 28 rfl dX9_trip_27 (by decide) ?_
            refine g_goto 32 (by decide) dX9_trip_28 ?_
            exact hk3 1
def fX9_tripAgain (M : Mem) (p0 : Int32) (p1 : Int32) : Option (Nat ⊕ Int32) := clp (fX9_isDirection M p0) (fun x1 => jn (fun (a2 : Int32) => clpx (fX9_need M a2 2) (fun u4 => clp (fX7_arePossible M 1 p0) (fun x5 => clpx (fX9_need M x5 5) (fun u6 => clp (fX7_secondsStepByStep M 1 p0 p1) (fun x7 => some (.inr x7)))))) (fun k3 => jn (fun (a8 : Unit) => k3 0) (fun k9 => if x1 = 0 then (k9 ()) else (clp (fX9_isWithin M p1 0 99999) (fun x10 => if x10 = 0 then (k9 ()) else (k3 1))))))
set_option maxRecDepth 100000 in
set_option maxHeartbeats 4000000 in
theorem c_X9_tripAgain {Ω : Wd} (l : Launch) (hO : OkW Ω) (hX : LX Ω) (hl0 : l.stackTraces = false) (hT : ThrOk Ω)  (M : Mem) (p0 : Int32) (p1 : Int32) : ∀ r, fX9_tripAgain M p0 p1 = some r → Ct l yX9_tripAgain (.code yX9_tripAgain cX9_tripAgain 3 (some .int)) 8 161 Ω [.ref (wA Ω 0), .int p0, .int p1] M ((cpIX M) r) := by
  refine ofG [(0, .ref (wA Ω 0)), (1, .int p0), (2, .int p1)] hO (by decide) rfl (Nat.le_of_ble_eq_true rfl) rfl ?_
  intro p e s m args below meth c
  unfold fX9_tripAgain
  refine g_iload_n 1 rfl rfl 1 rfl dX9_tripAgain_0 ?_
  refine p_cSI [.int p0] [] (c_X9_isDirection l hO M p0) dX9_tripAgain_1 us_X9_267 rfl yk_X9_isDirection ⟨by decide, by decide⟩ (Nat.le_of_ble_eq_true rfl) rfl 4 rfl ?_
  intro x1
  refine g_join 23 (fun a2 => [(0, .ref (wA Ω 0)), (1, .int p0), (2, .int p1)]) (fun a2 => [.int a2]) (fun a2 => M) ?_ ?_
  · intro a2
    refine g_iconst 2 24 rfl dX9_tripAgain_23 (by decide) ?_
    refine p_xSV [.int a2, .int 2] [] (c_X9_need l hO hl0 hT M a2 2) (fun _ => rfl) dX9_tripAgain_24 us_X9_68 rfl yk_X9_need ⟨by decide, by decide⟩ (Nat.le_of_ble_eq_true rfl) rfl 27 rfl ?_
    intro u4
    refine g_aload_n 0 rfl rfl 28 rfl dX9_tripAgain_27 ?_
    refine w_getR (lx_X hX) rfl in_X9 5 (by decide) wf_X9_39 470 rfl 31 rfl dX9_tripAgain_28 ?_
    refine g_aload_n 0 rfl rfl 32 rfl dX9_tripAgain_31 ?_
    refine w_getR (lx_X hX) rfl in_X9 0 (by decide) wf_X9_12 1 rfl 35 rfl dX9_tripAgain_32 ?_
    refine g_iload_n 1 rfl rfl 36 rfl dX9_tripAgain_35 ?_
    refine p_cVI 470 [.ref (wA Ω 1), .int p0] [] (c_X7_arePossible l hO hX isS_1 M p0) dX9_tripAgain_36 uv_X9_271 rfl yk_X7_arePossible ⟨by decide, by decide⟩ (lx_T hX).1 (lx_T hX).2 rfl (Nat.le_of_ble_eq_true rfl) rfl 39 rfl ?_
    intro x5
    refine g_iconst 5 40 rfl dX9_tripAgain_39 (by decide) ?_
    refine p_xSV [.int x5, .int 5] [] (c_X9_need l hO hl0 hT M x5 5) (fun _ => rfl) dX9_tripAgain_40 us_X9_68 rfl yk_X9_need ⟨by decide, by decide⟩ (Nat.le_of_ble_eq_true rfl) rfl 43 rfl ?_
    intro u6
    refine g_aload_n 0 rfl rfl 44 rfl dX9_tripAgain_43 ?_
    refine w_getR (lx_X hX) rfl in_X9 5 (by decide) wf_X9_39 470 rfl 47 rfl dX9_tripAgain_44 ?_
    refine g_aload_n 0 rfl rfl 48 rfl dX9_tripAgain_47 ?_
    refine w_getR (lx_X hX) rfl in_X9 0 (by decide) wf_X9_12 1 rfl 51 rfl dX9_tripAgain_48 ?_
    refine g_iload_n 1 rfl rfl 52 rfl dX9_tripAgain_51 ?_
    refine g_iload_n 2 rfl rfl 53 rfl dX9_tripAgain_52 ?_
    refine p_cVI 470 [.ref (wA Ω 1), .int p0, .int p1] [] (c_X7_secondsStepByStep l hO hX isS_1 M p0 p1) dX9_tripAgain_53 uv_X9_279 rfl yk_X7_secondsStepByStep ⟨by decide, by decide⟩ (lx_T hX).1 (lx_T hX).2 rfl (Nat.le_of_ble_eq_true rfl) rfl 56 rfl ?_
    intro x7
    exact p_iretX rfl dX9_tripAgain_56
  · intro k3 hk3
    refine g_join 22 (fun a8 => [(0, .ref (wA Ω 0)), (1, .int p0), (2, .int p1)]) (fun a8 => []) (fun a8 => M) ?_ ?_
    · intro a8
      refine g_iconst 0 23 rfl dX9_tripAgain_22 (by decide) ?_
      exact hk3 0
    · intro k9 hk9
      refine g_if_eq 22 (by decide) 7 rfl dX9_tripAgain_4 ?_ ?_
      · exact hk9 ()
      · refine g_iload_n 2 rfl rfl 8 rfl dX9_tripAgain_7 ?_
        refine g_iconst 0 9 rfl dX9_tripAgain_8 (by decide) ?_
        refine g_ldc_w 99999 wq_X9_270 12 rfl dX9_tripAgain_9 ?_
        refine p_cSI [.int p1, .int 0, .int 99999] [] (c_X9_isWithin l hO M p1 0 99999) dX9_tripAgain_12 us_X9_64 rfl yk_X9_isWithin ⟨by decide, by decide⟩ (Nat.le_of_ble_eq_true rfl) rfl 15 rfl ?_
        intro x10
        refine g_if_eq 22 (by decide) 18 rfl dX9_tripAgain_15 ?_ ?_
        · exact hk9 ()
        · refine g_iconst 1 19 rfl dX9_tripAgain_18 (by decide) ?_
          refine g_goto 23 (by decide) dX9_tripAgain_19 ?_
          exact hk3 1
def fX9_band (M : Mem) (p0 : Int32) : Option (Nat ⊕ Int32) := clp (fX9_isDirection M p0) (fun x1 => clpx (fX9_need M x1 2) (fun u2 => clp (fX7_arePossible M 1 p0) (fun x3 => clpx (fX9_need M x3 5) (fun u4 => clp (fX7_bandOf M 1 p0) (fun x5 => some (.inr x5))))))
set_option maxRecDepth 100000 in
set_option maxHeartbeats 4000000 in
theorem c_X9_band {Ω : Wd} (l : Launch) (hO : OkW Ω) (hX : LX Ω) (hl0 : l.stackTraces = false) (hT : ThrOk Ω)  (M : Mem) (p0 : Int32) : ∀ r, fX9_band M p0 = some r → Ct l yX9_band (.code yX9_band cX9_band 2 (some .int)) 8 161 Ω [.ref (wA Ω 0), .int p0] M ((cpIX M) r) := by
  refine ofG [(0, .ref (wA Ω 0)), (1, .int p0)] hO (by decide) rfl (Nat.le_of_ble_eq_true rfl) rfl ?_
  intro p e s m args below meth c
  unfold fX9_band
  refine g_iload_n 1 rfl rfl 1 rfl dX9_band_0 ?_
  refine p_cSI [.int p0] [] (c_X9_isDirection l hO M p0) dX9_band_1 us_X9_267 rfl yk_X9_isDirection ⟨by decide, by decide⟩ (Nat.le_of_ble_eq_true rfl) rfl 4 rfl ?_
  intro x1
  refine g_iconst 2 5 rfl dX9_band_4 (by decide) ?_
  refine p_xSV [.int x1, .int 2] [] (c_X9_need l hO hl0 hT M x1 2) (fun _ => rfl) dX9_band_5 us_X9_68 rfl yk_X9_need ⟨by decide, by decide⟩ (Nat.le_of_ble_eq_true rfl) rfl 8 rfl ?_
  intro u2
  refine g_aload_n 0 rfl rfl 9 rfl dX9_band_8 ?_
  refine w_getR (lx_X hX) rfl in_X9 5 (by decide) wf_X9_39 470 rfl 12 rfl dX9_band_9 ?_
  refine g_aload_n 0 rfl rfl 13 rfl dX9_band_12 ?_
  refine w_getR (lx_X hX) rfl in_X9 0 (by decide) wf_X9_12 1 rfl 16 rfl dX9_band_13 ?_
  refine g_iload_n 1 rfl rfl 17 rfl dX9_band_16 ?_
  refine p_cVI 470 [.ref (wA Ω 1), .int p0] [] (c_X7_arePossible l hO hX isS_1 M p0) dX9_band_17 uv_X9_271 rfl yk_X7_arePossible ⟨by decide, by decide⟩ (lx_T hX).1 (lx_T hX).2 rfl (Nat.le_of_ble_eq_true rfl) rfl 20 rfl ?_
  intro x3
  refine g_iconst 5 21 rfl dX9_band_20 (by decide) ?_
  refine p_xSV [.int x3, .int 5] [] (c_X9_need l hO hl0 hT M x3 5) (fun _ => rfl) dX9_band_21 us_X9_68 rfl yk_X9_need ⟨by decide, by decide⟩ (Nat.le_of_ble_eq_true rfl) rfl 24 rfl ?_
  intro u4
  refine g_aload_n 0 rfl rfl 25 rfl dX9_band_24 ?_
  refine w_getR (lx_X hX) rfl in_X9 5 (by decide) wf_X9_39 470 rfl 28 rfl dX9_band_25 ?_
  refine g_aload_n 0 rfl rfl 29 rfl dX9_band_28 ?_
  refine w_getR (lx_X hX) rfl in_X9 0 (by decide) wf_X9_12 1 rfl 32 rfl dX9_band_29 ?_
  refine g_iload_n 1 rfl rfl 33 rfl dX9_band_32 ?_
  refine p_cVI 470 [.ref (wA Ω 1), .int p0] [] (c_X7_bandOf l hO hX isS_1 M p0) dX9_band_33 uv_X9_283 rfl yk_X7_bandOf ⟨by decide, by decide⟩ (lx_T hX).1 (lx_T hX).2 rfl (Nat.le_of_ble_eq_true rfl) rfl 36 rfl ?_
  intro x5
  exact p_iretX rfl dX9_band_36
def fX9_bestOffset (M : Mem) (p0 : Int32) (p1 : Int32) : Option ((Nat ⊕ Int32) × Mem) := clpn (fX6_find M 1 p0) (clpm M (fX9_need M 0 1) (fun u1 => clp (fX9_isDirection M p1) (fun x2 => clpm M (fX9_need M x2 2) (fun u3 => clp (fX7_arePossible M 1 p1) (fun x4 => clpm M (fX9_need M x4 5) (fun u5 => cl (fX7_bestOffsetFor M 1 p0 p1) (fun x6 M7 => some (.inr x6, M7)))))))) (fun o8 => grd (isJb o8) (clpm M (fX9_need M 1 1) (fun u9 => clp (fX9_isDirection M p1) (fun x10 => clpm M (fX9_need M x10 2) (fun u11 => clp (fX7_arePossible M 1 p1) (fun x12 => clpm M (fX9_need M x12 5) (fun u13 => cl (fX7_bestOffsetFor M 1 p0 p1) (fun x14 M15 => some (.inr x14, M15)))))))))
set_option maxRecDepth 100000 in
set_option maxHeartbeats 4000000 in
theorem c_X9_bestOffset {Ω : Wd} (l : Launch) (hO : OkW Ω) (hX : LX Ω) (hl0 : l.stackTraces = false) (hT : ThrOk Ω)  (M : Mem) (p0 : Int32) (p1 : Int32) : ∀ r, fX9_bestOffset M p0 p1 = some r → Ct l yX9_bestOffset (.code yX9_bestOffset cX9_bestOffset 3 (some .int)) 8 161 Ω [.ref (wA Ω 0), .int p0, .int p1] M (cvIX r) := by
  refine ofG [(0, .ref (wA Ω 0)), (1, .int p0), (2, .int p1)] hO (by decide) rfl (Nat.le_of_ble_eq_true rfl) rfl ?_
  intro p e s m args below meth c
  unfold fX9_bestOffset
  refine g_aload_n 0 rfl rfl 1 rfl dX9_bestOffset_0 ?_
  refine w_getR (lx_X hX) rfl in_X9 0 (by decide) wf_X9_12 1 rfl 4 rfl dX9_bestOffset_1 ?_
  refine g_iload_n 1 rfl rfl 5 rfl dX9_bestOffset_4 ?_
  refine p_cVN 1 [.int p0] [] (c_X6_find l hO hX isS_1 M p0) dX9_bestOffset_5 uv_X9_287 rfl yk_X6_find ⟨by decide, by decide⟩ (lx_S hX isS_1).1 (lx_S hX isS_1).2 rfl (Nat.le_of_ble_eq_true rfl) rfl 8 rfl ?_ ?_
  · refine g_ifnullN 15 (by decide) dX9_bestOffset_8 ?_
    refine g_iconst 0 16 rfl dX9_bestOffset_15 (by decide) ?_
    refine g_iconst 1 17 rfl dX9_bestOffset_16 (by decide) ?_
    refine q_xSV [.int 0, .int 1] [] (c_X9_need l hO hl0 hT M 0 1) (fun _ _ => rfl) dX9_bestOffset_17 us_X9_68 rfl yk_X9_need ⟨by decide, by decide⟩ (Nat.le_of_ble_eq_true rfl) rfl 20 rfl ?_
    intro u1
    refine g_iload_n 2 rfl rfl 21 rfl dX9_bestOffset_20 ?_
    refine p_cSI [.int p1] [] (c_X9_isDirection l hO M p1) dX9_bestOffset_21 us_X9_267 rfl yk_X9_isDirection ⟨by decide, by decide⟩ (Nat.le_of_ble_eq_true rfl) rfl 24 rfl ?_
    intro x2
    refine g_iconst 2 25 rfl dX9_bestOffset_24 (by decide) ?_
    refine q_xSV [.int x2, .int 2] [] (c_X9_need l hO hl0 hT M x2 2) (fun _ _ => rfl) dX9_bestOffset_25 us_X9_68 rfl yk_X9_need ⟨by decide, by decide⟩ (Nat.le_of_ble_eq_true rfl) rfl 28 rfl ?_
    intro u3
    refine g_aload_n 0 rfl rfl 29 rfl dX9_bestOffset_28 ?_
    refine w_getR (lx_X hX) rfl in_X9 5 (by decide) wf_X9_39 470 rfl 32 rfl dX9_bestOffset_29 ?_
    refine g_aload_n 0 rfl rfl 33 rfl dX9_bestOffset_32 ?_
    refine w_getR (lx_X hX) rfl in_X9 0 (by decide) wf_X9_12 1 rfl 36 rfl dX9_bestOffset_33 ?_
    refine g_iload_n 2 rfl rfl 37 rfl dX9_bestOffset_36 ?_
    refine p_cVI 470 [.ref (wA Ω 1), .int p1] [] (c_X7_arePossible l hO hX isS_1 M p1) dX9_bestOffset_37 uv_X9_271 rfl yk_X7_arePossible ⟨by decide, by decide⟩ (lx_T hX).1 (lx_T hX).2 rfl (Nat.le_of_ble_eq_true rfl) rfl 40 rfl ?_
    intro x4
    refine g_iconst 5 41 rfl dX9_bestOffset_40 (by decide) ?_
    refine q_xSV [.int x4, .int 5] [] (c_X9_need l hO hl0 hT M x4 5) (fun _ _ => rfl) dX9_bestOffset_41 us_X9_68 rfl yk_X9_need ⟨by decide, by decide⟩ (Nat.le_of_ble_eq_true rfl) rfl 44 rfl ?_
    intro u5
    refine g_aload_n 0 rfl rfl 45 rfl dX9_bestOffset_44 ?_
    refine w_getR (lx_X hX) rfl in_X9 5 (by decide) wf_X9_39 470 rfl 48 rfl dX9_bestOffset_45 ?_
    refine g_aload_n 0 rfl rfl 49 rfl dX9_bestOffset_48 ?_
    refine w_getR (lx_X hX) rfl in_X9 0 (by decide) wf_X9_12 1 rfl 52 rfl dX9_bestOffset_49 ?_
    refine g_iload_n 1 rfl rfl 53 rfl dX9_bestOffset_52 ?_
    refine g_iload_n 2 rfl rfl 54 rfl dX9_bestOffset_53 ?_
    refine g_cVI 470 [.ref (wA Ω 1), .int p0, .int p1] [] (c_X7_bestOffsetFor l hO hX isS_1 M p0 p1) dX9_bestOffset_54 uv_X9_290 rfl yk_X7_bestOffsetFor ⟨by decide, by decide⟩ (lx_T hX).1 (lx_T hX).2 rfl (Nat.le_of_ble_eq_true rfl) rfl 57 rfl ?_
    intro x6 M7
    exact g_iretX rfl dX9_bestOffset_57
  · intro o8
    refine g_grd (fun ho80 => ?_)
    have ho8 := isJb_of ho80
    refine g_ifnull 11 rfl dX9_bestOffset_8 ?_
    refine g_iconst 1 12 rfl dX9_bestOffset_11 (by decide) ?_
    refine g_goto 16 (by decide) dX9_bestOffset_12 ?_
    refine g_iconst 1 17 rfl dX9_bestOffset_16 (by decide) ?_
    refine q_xSV [.int 1, .int 1] [] (c_X9_need l hO hl0 hT M 1 1) (fun _ _ => rfl) dX9_bestOffset_17 us_X9_68 rfl yk_X9_need ⟨by decide, by decide⟩ (Nat.le_of_ble_eq_true rfl) rfl 20 rfl ?_
    intro u9
    refine g_iload_n 2 rfl rfl 21 rfl dX9_bestOffset_20 ?_
    refine p_cSI [.int p1] [] (c_X9_isDirection l hO M p1) dX9_bestOffset_21 us_X9_267 rfl yk_X9_isDirection ⟨by decide, by decide⟩ (Nat.le_of_ble_eq_true rfl) rfl 24 rfl ?_
    intro x10
    refine g_iconst 2 25 rfl dX9_bestOffset_24 (by decide) ?_
    refine q_xSV [.int x10, .int 2] [] (c_X9_need l hO hl0 hT M x10 2) (fun _ _ => rfl) dX9_bestOffset_25 us_X9_68 rfl yk_X9_need ⟨by decide, by decide⟩ (Nat.le_of_ble_eq_true rfl) rfl 28 rfl ?_
    intro u11
    refine g_aload_n 0 rfl rfl 29 rfl dX9_bestOffset_28 ?_
    refine w_getR (lx_X hX) rfl in_X9 5 (by decide) wf_X9_39 470 rfl 32 rfl dX9_bestOffset_29 ?_
    refine g_aload_n 0 rfl rfl 33 rfl dX9_bestOffset_32 ?_
    refine w_getR (lx_X hX) rfl in_X9 0 (by decide) wf_X9_12 1 rfl 36 rfl dX9_bestOffset_33 ?_
    refine g_iload_n 2 rfl rfl 37 rfl dX9_bestOffset_36 ?_
    refine p_cVI 470 [.ref (wA Ω 1), .int p1] [] (c_X7_arePossible l hO hX isS_1 M p1) dX9_bestOffset_37 uv_X9_271 rfl yk_X7_arePossible ⟨by decide, by decide⟩ (lx_T hX).1 (lx_T hX).2 rfl (Nat.le_of_ble_eq_true rfl) rfl 40 rfl ?_
    intro x12
    refine g_iconst 5 41 rfl dX9_bestOffset_40 (by decide) ?_
    refine q_xSV [.int x12, .int 5] [] (c_X9_need l hO hl0 hT M x12 5) (fun _ _ => rfl) dX9_bestOffset_41 us_X9_68 rfl yk_X9_need ⟨by decide, by decide⟩ (Nat.le_of_ble_eq_true rfl) rfl 44 rfl ?_
    intro u13
    refine g_aload_n 0 rfl rfl 45 rfl dX9_bestOffset_44 ?_
    refine w_getR (lx_X hX) rfl in_X9 5 (by decide) wf_X9_39 470 rfl 48 rfl dX9_bestOffset_45 ?_
    refine g_aload_n 0 rfl rfl 49 rfl dX9_bestOffset_48 ?_
    refine w_getR (lx_X hX) rfl in_X9 0 (by decide) wf_X9_12 1 rfl 52 rfl dX9_bestOffset_49 ?_
    refine g_iload_n 1 rfl rfl 53 rfl dX9_bestOffset_52 ?_
    refine g_iload_n 2 rfl rfl 54 rfl dX9_bestOffset_53 ?_
    refine g_cVI 470 [.ref (wA Ω 1), .int p0, .int p1] [] (c_X7_bestOffsetFor l hO hX isS_1 M p0 p1) dX9_bestOffset_54 uv_X9_290 rfl yk_X7_bestOffsetFor ⟨by decide, by decide⟩ (lx_T hX).1 (lx_T hX).2 rfl (Nat.le_of_ble_eq_true rfl) rfl 57 rfl ?_
    intro x14 M15
    exact g_iretX rfl dX9_bestOffset_57
def fX9_share (M : Mem) (p0 : Int32) : Option (Nat ⊕ UInt32) := clp (fX9_isDirection M p0) (fun x1 => clpx (fX9_need M x1 2) (fun u2 => clp (fX7_arePossible M 1 p0) (fun x3 => clpx (fX9_need M x3 5) (fun u4 => clp (fX7_bandOf M 1 p0) (fun x5 => grd (nn32 (FP.fdiv (FP.i2f x5) (FP.i2f (M 1 0)))) (some (.inr (FP.fdiv (FP.i2f x5) (FP.i2f (M 1 0))))))))))
set_option maxRecDepth 100000 in
set_option maxHeartbeats 4000000 in
theorem c_X9_share {Ω : Wd} (l : Launch) (hO : OkW Ω) (hX : LX Ω) (hl0 : l.stackTraces = false) (hT : ThrOk Ω)  (M : Mem) (p0 : Int32) : ∀ r, fX9_share M p0 = some r → Ct l yX9_share (.code yX9_share cX9_share 2 (some .float)) 8 161 Ω [.ref (wA Ω 0), .int p0] M ((cpFX M) r) := by
  refine ofG [(0, .ref (wA Ω 0)), (1, .int p0)] hO (by decide) rfl (Nat.le_of_ble_eq_true rfl) rfl ?_
  intro p e s m args below meth c
  unfold fX9_share
  refine g_iload_n 1 rfl rfl 1 rfl dX9_share_0 ?_
  refine p_cSI [.int p0] [] (c_X9_isDirection l hO M p0) dX9_share_1 us_X9_267 rfl yk_X9_isDirection ⟨by decide, by decide⟩ (Nat.le_of_ble_eq_true rfl) rfl 4 rfl ?_
  intro x1
  refine g_iconst 2 5 rfl dX9_share_4 (by decide) ?_
  refine p_xSV [.int x1, .int 2] [] (c_X9_need l hO hl0 hT M x1 2) (fun _ => rfl) dX9_share_5 us_X9_68 rfl yk_X9_need ⟨by decide, by decide⟩ (Nat.le_of_ble_eq_true rfl) rfl 8 rfl ?_
  intro u2
  refine g_aload_n 0 rfl rfl 9 rfl dX9_share_8 ?_
  refine w_getR (lx_X hX) rfl in_X9 5 (by decide) wf_X9_39 470 rfl 12 rfl dX9_share_9 ?_
  refine g_aload_n 0 rfl rfl 13 rfl dX9_share_12 ?_
  refine w_getR (lx_X hX) rfl in_X9 0 (by decide) wf_X9_12 1 rfl 16 rfl dX9_share_13 ?_
  refine g_iload_n 1 rfl rfl 17 rfl dX9_share_16 ?_
  refine p_cVI 470 [.ref (wA Ω 1), .int p0] [] (c_X7_arePossible l hO hX isS_1 M p0) dX9_share_17 uv_X9_271 rfl yk_X7_arePossible ⟨by decide, by decide⟩ (lx_T hX).1 (lx_T hX).2 rfl (Nat.le_of_ble_eq_true rfl) rfl 20 rfl ?_
  intro x3
  refine g_iconst 5 21 rfl dX9_share_20 (by decide) ?_
  refine p_xSV [.int x3, .int 5] [] (c_X9_need l hO hl0 hT M x3 5) (fun _ => rfl) dX9_share_21 us_X9_68 rfl yk_X9_need ⟨by decide, by decide⟩ (Nat.le_of_ble_eq_true rfl) rfl 24 rfl ?_
  intro u4
  refine g_aload_n 0 rfl rfl 25 rfl dX9_share_24 ?_
  refine w_getR (lx_X hX) rfl in_X9 5 (by decide) wf_X9_39 470 rfl 28 rfl dX9_share_25 ?_
  refine g_aload_n 0 rfl rfl 29 rfl dX9_share_28 ?_
  refine w_getR (lx_X hX) rfl in_X9 0 (by decide) wf_X9_12 1 rfl 32 rfl dX9_share_29 ?_
  refine g_iload_n 1 rfl rfl 33 rfl dX9_share_32 ?_
  refine p_cVI 470 [.ref (wA Ω 1), .int p0] [] (c_X7_bandOf l hO hX isS_1 M p0) dX9_share_33 uv_X9_283 rfl yk_X7_bandOf ⟨by decide, by decide⟩ (lx_T hX).1 (lx_T hX).2 rfl (Nat.le_of_ble_eq_true rfl) rfl 36 rfl ?_
  intro x5
  refine f_i2f 37 rfl dX9_share_36 ?_
  refine g_aload_n 0 rfl rfl 38 rfl dX9_share_37 ?_
  refine w_getR (lx_X hX) rfl in_X9 0 (by decide) wf_X9_12 1 rfl 41 rfl dX9_share_38 ?_
  refine w_get (lx_S hX isS_1) rfl in_X6 0 (by decide) wf_X9_80 rfl 44 rfl dX9_share_41 ?_
  refine f_i2f 45 rfl dX9_share_44 ?_
  refine f_fdiv 46 rfl dX9_share_45 ?_
  exact p_fretX rfl dX9_share_46
def fX9_run (M : Mem) (p0 : Int32) : Option ((Nat ⊕ Int32) × Mem) := clp (fX9_runFault M p0) (fun x1 => clpm M (fX9_raise M x1) (fun u2 => cl (fX1_push M 1) (fun u3 M4 => cl (fX6_letPass M4 1 p0) (fun x5 M6 => some (.inr x5, M6)))))
set_option maxRecDepth 100000 in
set_option maxHeartbeats 4000000 in
theorem c_X9_run {Ω : Wd} (l : Launch) (hO : OkW Ω) (hX : LX Ω) (hl0 : l.stackTraces = false) (hT : ThrOk Ω)  (M : Mem) (p0 : Int32) : ∀ r, fX9_run M p0 = some r → Ct l yX9_run (.code yX9_run cX9_run 2 (some .int)) 7 140 Ω [.ref (wA Ω 0), .int p0] M (cvIX r) := by
  refine ofG [(0, .ref (wA Ω 0)), (1, .int p0)] hO (by decide) rfl (Nat.le_of_ble_eq_true rfl) rfl ?_
  intro p e s m args below meth c
  unfold fX9_run
  refine g_aload_n 0 rfl rfl 1 rfl dX9_run_0 ?_
  refine g_iload_n 1 rfl rfl 2 rfl dX9_run_1 ?_
  refine p_cVI 0 [.int p0] [] (c_X9_runFault l hO hX M p0) dX9_run_2 uv_X9_299 rfl yk_X9_runFault ⟨by decide, by decide⟩ (lx_X hX).1 (lx_X hX).2 rfl (Nat.le_of_ble_eq_true rfl) rfl 5 rfl ?_
  intro x1
  refine q_xSV [.int x1] [] (c_X9_raise l hO hl0 hT M x1) (fun _ _ => rfl) dX9_run_5 us_X9_101 rfl yk_X9_raise ⟨by decide, by decide⟩ (Nat.le_of_ble_eq_true rfl) rfl 8 rfl ?_
  intro u2
  refine g_aload_n 0 rfl rfl 9 rfl dX9_run_8 ?_
  refine w_getR (lx_X hX) rfl in_X9 3 (by decide) wf_X9_25 463 rfl 12 rfl dX9_run_9 ?_
  refine g_aload_n 0 rfl rfl 13 rfl dX9_run_12 ?_
  refine w_getR (lx_X hX) rfl in_X9 0 (by decide) wf_X9_12 1 rfl 16 rfl dX9_run_13 ?_
  refine g_cVV 463 [.ref (wA Ω 1)] [] (c_X1_push l hO hX isS_1 M) dX9_run_16 uv_X9_76 rfl yk_X1_push ⟨by decide, by decide⟩ (lx_H hX).1 (lx_H hX).2 rfl (Nat.le_of_ble_eq_true rfl) rfl 19 rfl ?_
  intro u3 M4
  refine g_aload_n 0 rfl rfl 20 rfl dX9_run_19 ?_
  refine w_getR (lx_X hX) rfl in_X9 0 (by decide) wf_X9_12 1 rfl 23 rfl dX9_run_20 ?_
  refine g_iload_n 1 rfl rfl 24 rfl dX9_run_23 ?_
  refine g_cVI 1 [.int p0] [] (c_X6_letPass l hO hX isS_1 M4 p0) dX9_run_24 uv_X9_302 rfl yk_X6_letPass ⟨by decide, by decide⟩ (lx_S hX isS_1).1 (lx_S hX isS_1).2 rfl (Nat.le_of_ble_eq_true rfl) rfl 27 rfl ?_
  intro x5 M6
  exact g_iretX rfl dX9_run_27
def fX9_account (M : Mem) (p0 : Int32) : Option (Nat ⊕ Int32) := clp (fX9_isWithin M p0 0 14) (fun x1 => clpx (fX9_need M x1 2) (fun u2 => if p0 = 0 then (some (.inr (M 1 3))) else (if p0 = 1 then (clp (fX6_sumOf M 1 p0) (fun x12 => some (.inr x12))) else (if p0 = 2 then (clp (fX6_sumOf M 1 p0) (fun x11 => some (.inr x11))) else (if p0 = 3 then (clp (fX6_sumOf M 1 p0) (fun x10 => some (.inr x10))) else (if p0 = 4 then (some (.inr (M 1 2))) else (if p0 = 5 then (clp (fX6_sumOf M 1 p0) (fun x9 => some (.inr x9))) else (if p0 = 6 then (clp (fX6_sumOf M 1 p0) (fun x8 => some (.inr x8))) else (if p0 = 7 then (clp (fX6_sumOf M 1 p0) (fun x7 => some (.inr x7))) else (if p0 = 8 then (clp (fX6_sumOf M 1 p0) (fun x6 => some (.inr x6))) else (if p0 = 9 then (clp (fX6_sumOf M 1 p0) (fun x5 => some (.inr x5))) else (if p0 = 10 then (clp (fX6_sumOf M 1 p0) (fun x4 => some (.inr x4))) else (if p0 = 11 then (some (.inr (M 1 0))) else (if p0 = 12 then (some (.inr (M 1 1))) else (if p0 = 13 then (some (.inr (M 463 0))) else (if p0 = 14 then (some (.inr (M 472 0))) else (clp (fX6_sumOf M 1 p0) (fun x3 => some (.inr x3)))))))))))))))))))
set_option maxRecDepth 100000 in
set_option maxHeartbeats 4000000 in
theorem c_X9_account {Ω : Wd} (l : Launch) (hO : OkW Ω) (hX : LX Ω) (hl0 : l.stackTraces = false) (hT : ThrOk Ω)  (M : Mem) (p0 : Int32) : ∀ r, fX9_account M p0 = some r → Ct l yX9_account (.code yX9_account cX9_account 2 (some .int)) 8 161 Ω [.ref (wA Ω 0), .int p0] M ((cpIX M) r) := by
  refine ofG [(0, .ref (wA Ω 0)), (1, .int p0)] hO (by decide) rfl (Nat.le_of_ble_eq_true rfl) rfl ?_
  intro p e s m args below meth c
  unfold fX9_account
  refine g_iload_n 1 rfl rfl 1 rfl dX9_account_0 ?_
  refine g_iconst 0 2 rfl dX9_account_1 (by decide) ?_
  refine g_bipush 14 4 rfl dX9_account_2 (by decide) ?_
  refine p_cSI [.int p0, .int 0, .int 14] [] (c_X9_isWithin l hO M p0 0 14) dX9_account_4 us_X9_64 rfl yk_X9_isWithin ⟨by decide, by decide⟩ (Nat.le_of_ble_eq_true rfl) rfl 7 rfl ?_
  intro x1
  refine g_iconst 2 8 rfl dX9_account_7 (by decide) ?_
  refine p_xSV [.int x1, .int 2] [] (c_X9_need l hO hl0 hT M x1 2) (fun _ => rfl) dX9_account_8 us_X9_68 rfl yk_X9_need ⟨by decide, by decide⟩ (Nat.le_of_ble_eq_true rfl) rfl 11 rfl ?_
  intro u2
  refine g_iload_n 1 rfl rfl 12 rfl dX9_account_11 ?_
  refine g_case ?_ ?_
  · intro h12_0
    refine g_tin (off := 76) 88 (by rw [h12_0]; decide) (by rw [h12_0]; decide) (by rw [h12_0]; rfl) (by decide) dX9_account_12 ?_
    refine g_aload_n 0 rfl rfl 89 rfl dX9_account_88 ?_
    refine w_getR (lx_X hX) rfl in_X9 0 (by decide) wf_X9_12 1 rfl 92 rfl dX9_account_89 ?_
    refine w_get (lx_S hX isS_1) rfl in_X6 3 (by decide) wf_X9_90 rfl 95 rfl dX9_account_92 ?_
    exact p_iretX rfl dX9_account_95
  · intro h12_0
    refine g_case ?_ ?_
    · intro h12_1
      refine g_tin (off := 124) 136 (by rw [h12_1]; decide) (by rw [h12_1]; decide) (by rw [h12_1]; rfl) (by decide) dX9_account_12 ?_
      refine g_aload_n 0 rfl rfl 137 rfl dX9_account_136 ?_
      refine w_getR (lx_X hX) rfl in_X9 0 (by decide) wf_X9_12 1 rfl 140 rfl dX9_account_137 ?_
      refine g_iload_n 1 rfl rfl 141 rfl dX9_account_140 ?_
      refine p_cVI 1 [.int p0] [] (c_X6_sumOf l hO hX isS_1 M p0) dX9_account_141 uv_X9_324 rfl yk_X6_sumOf ⟨by decide, by decide⟩ (lx_S hX isS_1).1 (lx_S hX isS_1).2 rfl (Nat.le_of_ble_eq_true rfl) rfl 144 rfl ?_
      intro x12
      exact p_iretX rfl dX9_account_144
    · intro h12_1
      refine g_case ?_ ?_
      · intro h12_2
        refine g_tin (off := 124) 136 (by rw [h12_2]; decide) (by rw [h12_2]; decide) (by rw [h12_2]; rfl) (by decide) dX9_account_12 ?_
        refine g_aload_n 0 rfl rfl 137 rfl dX9_account_136 ?_
        refine w_getR (lx_X hX) rfl in_X9 0 (by decide) wf_X9_12 1 rfl 140 rfl dX9_account_137 ?_
        refine g_iload_n 1 rfl rfl 141 rfl dX9_account_140 ?_
        refine p_cVI 1 [.int p0] [] (c_X6_sumOf l hO hX isS_1 M p0) dX9_account_141 uv_X9_324 rfl yk_X6_sumOf ⟨by decide, by decide⟩ (lx_S hX isS_1).1 (lx_S hX isS_1).2 rfl (Nat.le_of_ble_eq_true rfl) rfl 144 rfl ?_
        intro x11
        exact p_iretX rfl dX9_account_144
      · intro h12_2
        refine g_case ?_ ?_
        · intro h12_3
          refine g_tin (off := 124) 136 (by rw [h12_3]; decide) (by rw [h12_3]; decide) (by rw [h12_3]; rfl) (by decide) dX9_account_12 ?_
          refine g_aload_n 0 rfl rfl 137 rfl dX9_account_136 ?_
          refine w_getR (lx_X hX) rfl in_X9 0 (by decide) wf_X9_12 1 rfl 140 rfl dX9_account_137 ?_
          refine g_iload_n 1 rfl rfl 141 rfl dX9_account_140 ?_
          refine p_cVI 1 [.int p0] [] (c_X6_sumOf l hO hX isS_1 M p0) dX9_account_141 uv_X9_324 rfl yk_X6_sumOf ⟨by decide, by decide⟩ (lx_S hX isS_1).1 (lx_S hX isS_1).2 rfl (Nat.le_of_ble_eq_true rfl) rfl 144 rfl ?_
          intro x10
          exact p_iretX rfl dX9_account_144
        · intro h12_3
          refine g_case ?_ ?_
          · intro h12_4
            refine g_tin (off := 84) 96 (by rw [h12_4]; decide) (by rw [h12_4]; decide) (by rw [h12_4]; rfl) (by decide) dX9_account_12 ?_
            refine g_aload_n 0 rfl rfl 97 rfl dX9_account_96 ?_
            refine w_getR (lx_X hX) rfl in_X9 0 (by decide) wf_X9_12 1 rfl 100 rfl dX9_account_97 ?_
            refine w_get (lx_S hX isS_1) rfl in_X6 2 (by decide) wf_X9_130 rfl 103 rfl dX9_account_100 ?_
            exact p_iretX rfl dX9_account_103
          · intro h12_4
            refine g_case ?_ ?_
            · intro h12_5
              refine g_tin (off := 124) 136 (by rw [h12_5]; decide) (by rw [h12_5]; decide) (by rw [h12_5]; rfl) (by decide) dX9_account_12 ?_
              refine g_aload_n 0 rfl rfl 137 rfl dX9_account_136 ?_
              refine w_getR (lx_X hX) rfl in_X9 0 (by decide) wf_X9_12 1 rfl 140 rfl dX9_account_137 ?_
              refine g_iload_n 1 rfl rfl 141 rfl dX9_account_140 ?_
              refine p_cVI 1 [.int p0] [] (c_X6_sumOf l hO hX isS_1 M p0) dX9_account_141 uv_X9_324 rfl yk_X6_sumOf ⟨by decide, by decide⟩ (lx_S hX isS_1).1 (lx_S hX isS_1).2 rfl (Nat.le_of_ble_eq_true rfl) rfl 144 rfl ?_
              intro x9
              exact p_iretX rfl dX9_account_144
            · intro h12_5
              refine g_case ?_ ?_
              · intro h12_6
                refine g_tin (off := 124) 136 (by rw [h12_6]; decide) (by rw [h12_6]; decide) (by rw [h12_6]; rfl) (by decide) dX9_account_12 ?_
                refine g_aload_n 0 rfl rfl 137 rfl dX9_account_136 ?_
                refine w_getR (lx_X hX) rfl in_X9 0 (by decide) wf_X9_12 1 rfl 140 rfl dX9_account_137 ?_
                refine g_iload_n 1 rfl rfl 141 rfl dX9_account_140 ?_
                refine p_cVI 1 [.int p0] [] (c_X6_sumOf l hO hX isS_1 M p0) dX9_account_141 uv_X9_324 rfl yk_X6_sumOf ⟨by decide, by decide⟩ (lx_S hX isS_1).1 (lx_S hX isS_1).2 rfl (Nat.le_of_ble_eq_true rfl) rfl 144 rfl ?_
                intro x8
                exact p_iretX rfl dX9_account_144
              · intro h12_6
                refine g_case ?_ ?_
                · intro h12_7
                  refine g_tin (off := 124) 136 (by rw [h12_7]; decide) (by rw [h12_7]; decide) (by rw [h12_7]; rfl) (by decide) dX9_account_12 ?_
                  refine g_aload_n 0 rfl rfl 137 rfl dX9_account_136 ?_
                  refine w_getR (lx_X hX) rfl in_X9 0 (by decide) wf_X9_12 1 rfl 140 rfl dX9_account_137 ?_
                  refine g_iload_n 1 rfl rfl 141 rfl dX9_account_140 ?_
                  refine p_cVI 1 [.int p0] [] (c_X6_sumOf l hO hX isS_1 M p0) dX9_account_141 uv_X9_324 rfl yk_X6_sumOf ⟨by decide, by decide⟩ (lx_S hX isS_1).1 (lx_S hX isS_1).2 rfl (Nat.le_of_ble_eq_true rfl) rfl 144 rfl ?_
                  intro x7
                  exact p_iretX rfl dX9_account_144
                · intro h12_7
                  refine g_case ?_ ?_
                  · intro h12_8
                    refine g_tin (off := 124) 136 (by rw [h12_8]; decide) (by rw [h12_8]; decide) (by rw [h12_8]; rfl) (by decide) dX9_account_12 ?_
                    refine g_aload_n 0 rfl rfl 137 rfl dX9_account_136 ?_
                    refine w_getR (lx_X hX) rfl in_X9 0 (by decide) wf_X9_12 1 rfl 140 rfl dX9_account_137 ?_
                    refine g_iload_n 1 rfl rfl 141 rfl dX9_account_140 ?_
                    refine p_cVI 1 [.int p0] [] (c_X6_sumOf l hO hX isS_1 M p0) dX9_account_141 uv_X9_324 rfl yk_X6_sumOf ⟨by decide, by decide⟩ (lx_S hX isS_1).1 (lx_S hX isS_1).2 rfl (Nat.le_of_ble_eq_true rfl) rfl 144 rfl ?_
                    intro x6
                    exact p_iretX rfl dX9_account_144
                  · intro h12_8
                    refine g_case ?_ ?_
                    · intro h12_9
                      refine g_tin (off := 124) 136 (by rw [h12_9]; decide) (by rw [h12_9]; decide) (by rw [h12_9]; rfl) (by decide) dX9_account_12 ?_
                      refine g_aload_n 0 rfl rfl 137 rfl dX9_account_136 ?_
                      refine w_getR (lx_X hX) rfl in_X9 0 (by decide) wf_X9_12 1 rfl 140 rfl dX9_account_137 ?_
                      refine g_iload_n 1 rfl rfl 141 rfl dX9_account_140 ?_
                      refine p_cVI 1 [.int p0] [] (c_X6_sumOf l hO hX isS_1 M p0) dX9_account_141 uv_X9_324 rfl yk_X6_sumOf ⟨by decide, by decide⟩ (lx_S hX isS_1).1 (lx_S hX isS_1).2 rfl (Nat.le_of_ble_eq_true rfl) rfl 144 rfl ?_
                      intro x5
                      exact p_iretX rfl dX9_account_144
                    · intro h12_9
                      refine g_case ?_ ?_
                      · intro h12_10
                        refine g_tin (off := 124) 136 (by rw [h12_10]; decide) (by rw [h12_10]; decide) (by rw [h12_10]; rfl) (by decide) dX9_account_12 ?_
                        refine g_aload_n 0 rfl rfl 137 rfl dX9_account_136 ?_
                        refine w_getR (lx_X hX) rfl in_X9 0 (by decide) wf_X9_12 1 rfl 140 rfl dX9_account_137 ?_
                        refine g_iload_n 1 rfl rfl 141 rfl dX9_account_140 ?_
                        refine p_cVI 1 [.int p0] [] (c_X6_sumOf l hO hX isS_1 M p0) dX9_account_141 uv_X9_324 rfl yk_X6_sumOf ⟨by decide, by decide⟩ (lx_S hX isS_1).1 (lx_S hX isS_1).2 rfl (Nat.le_of_ble_eq_true rfl) rfl 144 rfl ?_
                        intro x4
                        exact p_iretX rfl dX9_account_144
                      · intro h12_10
                        refine g_case ?_ ?_
                        · intro h12_11
                          refine g_tin (off := 92) 104 (by rw [h12_11]; decide) (by rw [h12_11]; decide) (by rw [h12_11]; rfl) (by decide) dX9_account_12 ?_
                          refine g_aload_n 0 rfl rfl 105 rfl dX9_account_104 ?_
                          refine w_getR (lx_X hX) rfl in_X9 0 (by decide) wf_X9_12 1 rfl 108 rfl dX9_account_105 ?_
                          refine w_get (lx_S hX isS_1) rfl in_X6 0 (by decide) wf_X9_80 rfl 111 rfl dX9_account_108 ?_
                          exact p_iretX rfl dX9_account_111
                        · intro h12_11
                          refine g_case ?_ ?_
                          · intro h12_12
                            refine g_tin (off := 100) 112 (by rw [h12_12]; decide) (by rw [h12_12]; decide) (by rw [h12_12]; rfl) (by decide) dX9_account_12 ?_
                            refine g_aload_n 0 rfl rfl 113 rfl dX9_account_112 ?_
                            refine w_getR (lx_X hX) rfl in_X9 0 (by decide) wf_X9_12 1 rfl 116 rfl dX9_account_113 ?_
                            refine w_get (lx_S hX isS_1) rfl in_X6 1 (by decide) wf_X9_83 rfl 119 rfl dX9_account_116 ?_
                            exact p_iretX rfl dX9_account_119
                          · intro h12_12
                            refine g_case ?_ ?_
                            · intro h12_13
                              refine g_tin (off := 108) 120 (by rw [h12_13]; decide) (by rw [h12_13]; decide) (by rw [h12_13]; rfl) (by decide) dX9_account_12 ?_
                              refine g_aload_n 0 rfl rfl 121 rfl dX9_account_120 ?_
                              refine w_getR (lx_X hX) rfl in_X9 3 (by decide) wf_X9_25 463 rfl 124 rfl dX9_account_121 ?_
                              refine w_get (lx_H hX) rfl in_X1 0 (by decide) wf_X9_320 rfl 127 rfl dX9_account_124 ?_
                              exact p_iretX rfl dX9_account_127
                            · intro h12_13
                              refine g_case ?_ ?_
                              · intro h12_14
                                refine g_tin (off := 116) 128 (by rw [h12_14]; decide) (by rw [h12_14]; decide) (by rw [h12_14]; rfl) (by decide) dX9_account_12 ?_
                                refine g_aload_n 0 rfl rfl 129 rfl dX9_account_128 ?_
                                refine w_getR (lx_X hX) rfl in_X9 6 (by decide) wf_X9_46 472 rfl 132 rfl dX9_account_129 ?_
                                refine w_get (lx_C hX) rfl in_X5 0 (by decide) wf_X9_321 rfl 135 rfl dX9_account_132 ?_
                                exact p_iretX rfl dX9_account_135
                              · intro h12_14
                                refine g_tout 136 (ts_out (fun z h1 h2 e => by have q0 := ts_ne (z := 0) h12_0 (by decide); have q1 := ts_ne (z := 1) h12_1 (by decide); have q2 := ts_ne (z := 2) h12_2 (by decide); have q3 := ts_ne (z := 3) h12_3 (by decide); have q4 := ts_ne (z := 4) h12_4 (by decide); have q5 := ts_ne (z := 5) h12_5 (by decide); have q6 := ts_ne (z := 6) h12_6 (by decide); have q7 := ts_ne (z := 7) h12_7 (by decide); have q8 := ts_ne (z := 8) h12_8 (by decide); have q9 := ts_ne (z := 9) h12_9 (by decide); have q10 := ts_ne (z := 10) h12_10 (by decide); have q11 := ts_ne (z := 11) h12_11 (by decide); have q12 := ts_ne (z := 12) h12_12 (by decide); have q13 := ts_ne (z := 13) h12_13 (by decide); have q14 := ts_ne (z := 14) h12_14 (by decide); omega)) (by decide) dX9_account_12 ?_
                                refine g_aload_n 0 rfl rfl 137 rfl dX9_account_136 ?_
                                refine w_getR (lx_X hX) rfl in_X9 0 (by decide) wf_X9_12 1 rfl 140 rfl dX9_account_137 ?_
                                refine g_iload_n 1 rfl rfl 141 rfl dX9_account_140 ?_
                                refine p_cVI 1 [.int p0] [] (c_X6_sumOf l hO hX isS_1 M p0) dX9_account_141 uv_X9_324 rfl yk_X6_sumOf ⟨by decide, by decide⟩ (lx_S hX isS_1).1 (lx_S hX isS_1).2 rfl (Nat.le_of_ble_eq_true rfl) rfl 144 rfl ?_
                                intro x3
                                exact p_iretX rfl dX9_account_144
def fX9_meanWait (M : Mem)  : Option (Nat ⊕ UInt64) := clp (fX6_sumOf M 1 6) (fun x1 => if 1 ≤ x1 then (clp (fX6_sumOf M 1 8) (fun x2 => grd (nn64 (FP.ddiv (FP.i2d x2) (FP.i2d x1))) (some (.inr (FP.ddiv (FP.i2d x2) (FP.i2d x1)))))) else (some (.inl 5)))
set_option maxRecDepth 100000 in
set_option maxHeartbeats 4000000 in
theorem c_X9_meanWait {Ω : Wd} (l : Launch) (hO : OkW Ω) (hX : LX Ω) (hl0 : l.stackTraces = false) (hT : ThrOk Ω)  (M : Mem)  : ∀ r, fX9_meanWait M  = some r → Ct l yX9_meanWait (.code yX9_meanWait cX9_meanWait 2 (some .double)) 6 133 Ω [.ref (wA Ω 0)] M ((cpDX M) r) := by
  refine ofG [(0, .ref (wA Ω 0))] hO (by decide) rfl (Nat.le_of_ble_eq_true rfl) rfl ?_
  intro p e s m args below meth c
  unfold fX9_meanWait
  refine g_aload_n 0 rfl rfl 1 rfl dX9_meanWait_0 ?_
  refine w_getR (lx_X hX) rfl in_X9 0 (by decide) wf_X9_12 1 rfl 4 rfl dX9_meanWait_1 ?_
  refine g_bipush 6 6 rfl dX9_meanWait_4 (by decide) ?_
  refine p_cVI 1 [.int 6] [] (c_X6_sumOf l hO hX isS_1 M 6) dX9_meanWait_6 uv_X9_324 rfl yk_X6_sumOf ⟨by decide, by decide⟩ (lx_S hX isS_1).1 (lx_S hX isS_1).2 rfl (Nat.le_of_ble_eq_true rfl) rfl 9 rfl ?_
  intro x1
  refine g_istore_nA [(1, .int x1), (0, .ref (wA Ω 0))] rfl 10 rfl dX9_meanWait_9 (by decide) rfl ?_
  refine g_iload_n 0 rfl rfl 11 rfl dX9_meanWait_10 ?_
  refine g_iconst 1 12 rfl dX9_meanWait_11 (by decide) ?_
  refine g_icmp_ge 26 (by decide) 15 rfl dX9_meanWait_12 ?_ ?_
  · refine g_aload_n 1 rfl rfl 27 rfl dX9_meanWait_26 ?_
    refine w_getR (lx_X hX) rfl in_X9 0 (by decide) wf_X9_12 1 rfl 30 rfl dX9_meanWait_27 ?_
    refine g_bipush 8 32 rfl dX9_meanWait_30 (by decide) ?_
    refine p_cVI 1 [.int 8] [] (c_X6_sumOf l hO hX isS_1 M 8) dX9_meanWait_32 uv_X9_324 rfl yk_X6_sumOf ⟨by decide, by decide⟩ (lx_S hX isS_1).1 (lx_S hX isS_1).2 rfl (Nat.le_of_ble_eq_true rfl) rfl 35 rfl ?_
    intro x2
    refine f_i2d 36 rfl dX9_meanWait_35 ?_
    refine g_iload_n 0 rfl rfl 37 rfl dX9_meanWait_36 ?_
    refine f_i2d 38 rfl dX9_meanWait_37 ?_
    refine f_ddiv 39 rfl dX9_meanWait_38 ?_
    exact p_dretX rfl dX9_meanWait_39
  · exact g_throwW hl0 hT 5 327 336 331 "no request was served" xNm xf_5 xNm_ok wj_X9_327 wxi_5 (List.mem_of_getElem? (i := 8) rfl) xa_5 xg_5 dX9_meanWait_15 dX9_meanWait_18 dX9_meanWait_19 dX9_meanWait_22 dX9_meanWait_25 (by decide) (Nat.le_of_ble_eq_true rfl) rfl
def fX9_append_L1 (p0 : Int32) (k7 : Mem → Option ((Nat ⊕ Int32) × Mem)) (k9 : (Int32 × Mem) → Option ((Nat ⊕ Int32) × Mem)) (a8 : Int32 × Mem) : Option ((Nat ⊕ Int32) × Mem) := if a8.1 < 0 then (k7 a8.2) else (cl (fX5_add a8.2 (((((p0.toUInt32 >>> (a8.1.toUInt32 &&& Int32.toUInt32 31)).toInt32) &&& 255).toUInt32 % 65536).toInt32)) (fun u10 M11 => bnd (a8.1 + (-8)) (fun x12 => k9 (x12, M11))))
def fX9_append_L2 (p0 : Int32) (M : Mem) (k2 : Int32 → Option ((Nat ⊕ Int32) × Mem)) (k14 : (Int32 × Int32) → Option ((Nat ⊕ Int32) × Mem)) (a13 : Int32 × Int32) : Option ((Nat ⊕ Int32) × Mem) := if a13.2 < 0 then (k2 a13.1) else (bnd (((p0.toUInt32 >>> (a13.2.toUInt32 &&& Int32.toUInt32 31)).toInt32) &&& 255) (fun x15 => jn (fun (a16 : Int32) => clpm M (fX9_need M a16 2) (fun u18 => jn (fun (a19 : Int32) => bnd (a13.1 + a19) (fun x21 => bnd (a13.2 + (-8)) (fun x22 => k14 (x21, x22)))) (fun k20 => if x15 = 0 then (k20 0) else (k20 1)))) (fun k17 => jn (fun (a23 : Unit) => k17 1) (fun k24 => if x15 = 0 then (k24 ()) else (clp (fX9_isWithin M x15 33 126) (fun x25 => if x25 = 0 then (k17 0) else (k24 ())))))))
def fX9_append (M : Mem) (p0 : Int32) : Option ((Nat ⊕ Int32) × Mem) := jn (fun (a1 : Int32) => jn (fun (a3 : Int32) => clpm M (fX9_need M a3 3) (fun u5 => jn (fun (a6 : Mem) => some (.inr (a6 472 0), a6)) (fun k7 => lp (fX9_append_L1 p0 k7) FU (24, M)))) (fun k4 => if 60 < (M 472 0) + a1 then (k4 0) else (k4 1))) (fun k2 => lp (fX9_append_L2 p0 M k2) FU (0, 24))
set_option maxRecDepth 100000 in
set_option maxHeartbeats 4000000 in
theorem c_X9_append {Ω : Wd} (l : Launch) (hO : OkW Ω) (hX : LX Ω) (hl0 : l.stackTraces = false) (hT : ThrOk Ω)  (M : Mem) (p0 : Int32) : ∀ r, fX9_append M p0 = some r → Ct l yX9_append (.code yX9_append cX9_append 5 (some .int)) 8 161 Ω [.ref (wA Ω 0), .int p0] M (cvIX r) := by
  refine ofG [(0, .ref (wA Ω 0)), (1, .int p0)] hO (by decide) rfl (Nat.le_of_ble_eq_true rfl) rfl ?_
  intro p e s m args below meth c
  unfold fX9_append
  refine g_iconst 0 1 rfl dX9_append_0 (by decide) ?_
  refine g_istore_nA [(2, .int 0), (0, .ref (wA Ω 0)), (1, .int p0)] rfl 2 rfl dX9_append_1 (by decide) rfl ?_
  refine g_bipush 24 4 rfl dX9_append_2 (by decide) ?_
  refine g_istore_nA [(3, .int 24), (2, .int 0), (0, .ref (wA Ω 0)), (1, .int p0)] rfl 5 rfl dX9_append_4 (by decide) rfl ?_
  refine g_join 63 (fun a1 => [(0, .ref (wA Ω 0)), (1, .int p0), (2, .int a1)]) (fun a1 => []) (fun a1 => M) ?_ ?_
  · intro a1
    refine g_aload_n 0 rfl rfl 64 rfl dX9_append_63 ?_
    refine w_getR (lx_X hX) rfl in_X9 6 (by decide) wf_X9_46 472 rfl 67 rfl dX9_append_64 ?_
    refine w_get (lx_C hX) rfl in_X5 0 (by decide) wf_X9_321 rfl 70 rfl dX9_append_67 ?_
    refine g_iload_n 2 rfl rfl 71 rfl dX9_append_70 ?_
    refine g_iadd 72 rfl dX9_append_71 ?_
    refine g_bipush 60 74 rfl dX9_append_72 (by decide) ?_
    refine g_join 82 (fun a3 => [(0, .ref (wA Ω 0)), (1, .int p0)]) (fun a3 => [.int a3]) (fun a3 => M) ?_ ?_
    · intro a3
      refine g_iconst 3 83 rfl dX9_append_82 (by decide) ?_
      refine q_xSV [.int a3, .int 3] [] (c_X9_need l hO hl0 hT M a3 3) (fun _ _ => rfl) dX9_append_83 us_X9_68 rfl yk_X9_need ⟨by decide, by decide⟩ (Nat.le_of_ble_eq_true rfl) rfl 86 rfl ?_
      intro u5
      refine g_bipush 24 88 rfl dX9_append_86 (by decide) ?_
      refine g_istore_nA [(3, .int 24), (0, .ref (wA Ω 0)), (1, .int p0)] rfl 89 rfl dX9_append_88 (by decide) rfl ?_
      refine g_join 114 (fun a6 => [(0, .ref (wA Ω 0))]) (fun a6 => []) (fun a6 => a6) ?_ ?_
      · intro a6
        refine g_aload_n 0 rfl rfl 115 rfl dX9_append_114 ?_
        refine w_getR (lx_X hX) rfl in_X9 6 (by decide) wf_X9_46 472 rfl 118 rfl dX9_append_115 ?_
        refine w_get (lx_C hX) rfl in_X5 0 (by decide) wf_X9_321 rfl 121 rfl dX9_append_118 ?_
        exact g_iretX rfl dX9_append_121
      · intro k7 hk7
        refine g_sub [(0, .ref (wA Ω 0)), (1, .int p0), (3, .int 24)] [1, 2, 0] rfl ?_
        refine g_loop 89 (fun a8 => [(0, .ref (wA Ω 0)), (1, .int p0), (3, .int a8.1)]) (fun _ => []) (fun a8 => a8.2) ?_ FU (24, M)
        intro k9 hk9 a8
        unfold fX9_append_L1
        refine g_iload_n 2 rfl rfl 90 rfl dX9_append_89 ?_
        refine g_if_lt 114 (by decide) 93 rfl dX9_append_90 ?_ ?_
        · refine g_sub [(0, .ref (wA Ω 0))] [0] rfl ?_
          exact hk7 a8.2
        · refine g_aload_n 0 rfl rfl 94 rfl dX9_append_93 ?_
          refine w_getR (lx_X hX) rfl in_X9 6 (by decide) wf_X9_46 472 rfl 97 rfl dX9_append_94 ?_
          refine g_iload_n 1 rfl rfl 98 rfl dX9_append_97 ?_
          refine g_iload_n 2 rfl rfl 99 rfl dX9_append_98 ?_
          refine g_iushr 100 rfl dX9_append_99 ?_
          refine g_sipush 255 103 rfl dX9_append_100 (by decide) ?_
          refine g_iand 104 rfl dX9_append_103 ?_
          refine g_i2c 105 rfl dX9_append_104 ?_
          refine g_cVV 472 [.int (((((p0.toUInt32 >>> (a8.1.toUInt32 &&& Int32.toUInt32 31)).toInt32) &&& 255).toUInt32 % 65536).toInt32)] [] (c_X5_add l hO hX a8.2 (((((p0.toUInt32 >>> (a8.1.toUInt32 &&& Int32.toUInt32 31)).toInt32) &&& 255).toUInt32 % 65536).toInt32)) dX9_append_105 uv_X9_338 rfl yk_X5_add ⟨by decide, by decide⟩ (lx_C hX).1 (lx_C hX).2 rfl (Nat.le_of_ble_eq_true rfl) rfl 108 rfl ?_
          intro u10 M11
          refine g_iinc 2 rfl (-8) (by decide) (fun x12 => [(3, .int x12), (0, .ref (wA Ω 0)), (1, .int p0)]) 111 rfl dX9_append_108 (by decide) (fun _ => rfl) ?_
          intro x12
          refine g_goto 89 (by decide) dX9_append_111 ?_
          refine g_sub [(0, .ref (wA Ω 0)), (1, .int p0), (3, .int x12)] [1, 2, 0] rfl ?_
          exact hk9 (x12, M11)
    · intro k4 hk4
      refine g_icmp_gt 81 (by decide) 77 rfl dX9_append_74 ?_ ?_
      · refine g_iconst 0 82 rfl dX9_append_81 (by decide) ?_
        refine g_sub [(0, .ref (wA Ω 0)), (1, .int p0)] [0, 1] rfl ?_
        exact hk4 0
      · refine g_iconst 1 78 rfl dX9_append_77 (by decide) ?_
        refine g_goto 82 (by decide) dX9_append_78 ?_
        refine g_sub [(0, .ref (wA Ω 0)), (1, .int p0)] [0, 1] rfl ?_
        exact hk4 1
  · intro k2 hk2
    refine g_sub [(0, .ref (wA Ω 0)), (1, .int p0), (2, .int 0), (3, .int 24)] [2, 3, 1, 0] rfl ?_
    refine g_loop 5 (fun a13 => [(0, .ref (wA Ω 0)), (1, .int p0), (2, .int a13.1), (3, .int a13.2)]) (fun _ => []) (fun a13 => M) ?_ FU (0, 24)
    intro k14 hk14 a13
    unfold fX9_append_L2
    refine g_iload_n 3 rfl rfl 6 rfl dX9_append_5 ?_
    refine g_if_lt 63 (by decide) 9 rfl dX9_append_6 ?_ ?_
    · refine g_sub [(0, .ref (wA Ω 0)), (1, .int p0), (2, .int a13.1)] [0, 1, 2] rfl ?_
      exact hk2 a13.1
    · refine g_iload_n 1 rfl rfl 10 rfl dX9_append_9 ?_
      refine g_iload_n 3 rfl rfl 11 rfl dX9_append_10 ?_
      refine g_iushr 12 rfl dX9_append_11 ?_
      refine g_sipush 255 15 rfl dX9_append_12 (by decide) ?_
      refine g_iand 16 rfl dX9_append_15 ?_
      refine g_istore (fun x15 => [(4, .int x15), (0, .ref (wA Ω 0)), (1, .int p0), (2, .int a13.1), (3, .int a13.2)]) 18 rfl dX9_append_16 (by decide) (fun _ => rfl) ?_
      intro x15
      refine g_iload 0 rfl 20 rfl dX9_append_18 ?_
      refine g_join 40 (fun a16 => [(0, .ref (wA Ω 0)), (1, .int p0), (2, .int a13.1), (3, .int a13.2), (4, .int x15)]) (fun a16 => [.int a16]) (fun a16 => M) ?_ ?_
      · intro a16
        refine g_iconst 2 41 rfl dX9_append_40 (by decide) ?_
        refine q_xSV [.int a16, .int 2] [] (c_X9_need l hO hl0 hT M a16 2) (fun _ _ => rfl) dX9_append_41 us_X9_68 rfl yk_X9_need ⟨by decide, by decide⟩ (Nat.le_of_ble_eq_true rfl) rfl 44 rfl ?_
        intro u18
        refine g_iload_n 2 rfl rfl 45 rfl dX9_append_44 ?_
        refine g_iload 4 rfl 47 rfl dX9_append_45 ?_
        refine g_join 55 (fun a19 => [(0, .ref (wA Ω 0)), (1, .int p0), (3, .int a13.2)]) (fun a19 => [.int a19, .int a13.1]) (fun a19 => M) ?_ ?_
        · intro a19
          refine g_iadd 56 rfl dX9_append_55 ?_
          refine g_istore_n (fun x21 => [(2, .int x21), (0, .ref (wA Ω 0)), (1, .int p0), (3, .int a13.2)]) rfl 57 rfl dX9_append_56 (by decide) (fun _ => rfl) ?_
          intro x21
          refine g_iinc 3 rfl (-8) (by decide) (fun x22 => [(3, .int x22), (2, .int x21), (0, .ref (wA Ω 0)), (1, .int p0)]) 60 rfl dX9_append_57 (by decide) (fun _ => rfl) ?_
          intro x22
          refine g_goto 5 (by decide) dX9_append_60 ?_
          refine g_sub [(0, .ref (wA Ω 0)), (1, .int p0), (2, .int x21), (3, .int x22)] [2, 3, 1, 0] rfl ?_
          exact hk14 (x21, x22)
        · intro k20 hk20
          refine g_if_ne 54 (by decide) 50 rfl dX9_append_47 ?_ ?_
          · refine g_iconst 0 51 rfl dX9_append_50 (by decide) ?_
            refine g_goto 55 (by decide) dX9_append_51 ?_
            refine g_sub [(0, .ref (wA Ω 0)), (1, .int p0), (3, .int a13.2)] [0, 1, 3] rfl ?_
            exact hk20 0
          · refine g_iconst 1 55 rfl dX9_append_54 (by decide) ?_
            refine g_sub [(0, .ref (wA Ω 0)), (1, .int p0), (3, .int a13.2)] [0, 1, 3] rfl ?_
            exact hk20 1
      · intro k17 hk17
        refine g_join 35 (fun a23 => [(0, .ref (wA Ω 0)), (1, .int p0), (2, .int a13.1), (3, .int a13.2), (4, .int x15)]) (fun a23 => []) (fun a23 => M) ?_ ?_
        · intro a23
          refine g_iconst 1 36 rfl dX9_append_35 (by decide) ?_
          refine g_goto 40 (by decide) dX9_append_36 ?_
          exact hk17 1
        · intro k24 hk24
          refine g_if_eq 35 (by decide) 23 rfl dX9_append_20 ?_ ?_
          · refine g_sub [(0, .ref (wA Ω 0)), (1, .int p0), (2, .int a13.1), (3, .int a13.2), (4, .int x15)] [1, 2, 3, 4, 0] rfl ?_
            exact hk24 ()
          · refine g_iload 0 rfl 25 rfl dX9_append_23 ?_
            refine g_bipush 33 27 rfl dX9_append_25 (by decide) ?_
            refine g_bipush 126 29 rfl dX9_append_27 (by decide) ?_
            refine p_cSI [.int x15, .int 33, .int 126] [] (c_X9_isWithin l hO M x15 33 126) dX9_append_29 us_X9_64 rfl yk_X9_isWithin ⟨by decide, by decide⟩ (Nat.le_of_ble_eq_true rfl) rfl 32 rfl ?_
            intro x25
            refine g_if_eq 39 (by decide) 35 rfl dX9_append_32 ?_ ?_
            · refine g_iconst 0 40 rfl dX9_append_39 (by decide) ?_
              refine g_sub [(0, .ref (wA Ω 0)), (1, .int p0), (2, .int a13.1), (3, .int a13.2), (4, .int x15)] [1, 2, 3, 4, 0] rfl ?_
              exact hk17 0
            · refine g_sub [(0, .ref (wA Ω 0)), (1, .int p0), (2, .int a13.1), (3, .int a13.2), (4, .int x15)] [1, 2, 3, 4, 0] rfl ?_
              exact hk24 ()
def fX9_character (M : Mem) (p0 : Int32) : Option (Nat ⊕ Int32) := clp (fX9_isWithin M p0 0 ((M 477 0) - 1)) (fun x1 => clpx (fX9_need M x1 1) (fun u2 => grd (inb p0 96) (grd (isc (M 478 p0.toNatClampNeg)) (some (.inr (M 478 p0.toNatClampNeg))))))
set_option maxRecDepth 100000 in
set_option maxHeartbeats 4000000 in
theorem c_X9_character {Ω : Wd} (l : Launch) (hO : OkW Ω) (hX : LX Ω) (hl0 : l.stackTraces = false) (hT : ThrOk Ω)  (M : Mem) (p0 : Int32) : ∀ r, fX9_character M p0 = some r → Ct l yX9_character (.code yX9_character cX9_character 2 (some .char)) 8 161 Ω [.ref (wA Ω 0), .int p0] M ((cpIX M) r) := by
  refine ofG [(0, .ref (wA Ω 0)), (1, .int p0)] hO (by decide) rfl (Nat.le_of_ble_eq_true rfl) rfl ?_
  intro p e s m args below meth c
  unfold fX9_character
  refine g_iload_n 1 rfl rfl 1 rfl dX9_character_0 ?_
  refine g_iconst 0 2 rfl dX9_character_1 (by decide) ?_
  refine g_aload_n 0 rfl rfl 3 rfl dX9_character_2 ?_
  refine w_getR (lx_X hX) rfl in_X9 7 (by decide) wf_X9_53 477 rfl 6 rfl dX9_character_3 ?_
  refine w_get (lx_R hX) rfl in_X4 0 (by decide) wf_X9_367 rfl 9 rfl dX9_character_6 ?_
  refine g_iconst 1 10 rfl dX9_character_9 (by decide) ?_
  refine g_isub 11 rfl dX9_character_10 ?_
  refine p_cSI [.int p0, .int 0, .int ((M 477 0) - 1)] [] (c_X9_isWithin l hO M p0 0 ((M 477 0) - 1)) dX9_character_11 us_X9_64 rfl yk_X9_isWithin ⟨by decide, by decide⟩ (Nat.le_of_ble_eq_true rfl) rfl 14 rfl ?_
  intro x1
  refine g_iconst 1 15 rfl dX9_character_14 (by decide) ?_
  refine p_xSV [.int x1, .int 1] [] (c_X9_need l hO hl0 hT M x1 1) (fun _ => rfl) dX9_character_15 us_X9_68 rfl yk_X9_need ⟨by decide, by decide⟩ (Nat.le_of_ble_eq_true rfl) rfl 18 rfl ?_
  intro u2
  refine g_aload_n 0 rfl rfl 19 rfl dX9_character_18 ?_
  refine w_getR (lx_X hX) rfl in_X9 7 (by decide) wf_X9_53 477 rfl 22 rfl dX9_character_19 ?_
  refine w_getR (lx_R hX) rfl in_X4 1 (by decide) wf_X9_368 478 rfl 25 rfl dX9_character_22 ?_
  refine g_iload_n 1 rfl rfl 26 rfl dX9_character_25 ?_
  refine w_cald (lx_R1 hX) 27 rfl dX9_character_26 ?_
  exact p_cretX rfl dX9_character_27
def fX9_undo (M : Mem)  : Option ((Nat ⊕ Int32) × Mem) := jn (fun (a1 : Int32) => clpm M (fX9_need M a1 3) (fun u3 => cl (fX1_popInto M 1) (fun u4 M5 => some (.inr (M5 463 0), M5)))) (fun k2 => if M 463 0 ≤ 0 then (k2 0) else (k2 1))
set_option maxRecDepth 100000 in
set_option maxHeartbeats 4000000 in
theorem c_X9_undo {Ω : Wd} (l : Launch) (hO : OkW Ω) (hX : LX Ω) (hl0 : l.stackTraces = false) (hT : ThrOk Ω)  (M : Mem)  : ∀ r, fX9_undo M  = some r → Ct l yX9_undo (.code yX9_undo cX9_undo 1 (some .int)) 8 161 Ω [.ref (wA Ω 0)] M (cvIX r) := by
  refine ofG [(0, .ref (wA Ω 0))] hO (by decide) rfl (Nat.le_of_ble_eq_true rfl) rfl ?_
  intro p e s m args below meth c
  unfold fX9_undo
  refine g_aload_n 0 rfl rfl 1 rfl dX9_undo_0 ?_
  refine w_getR (lx_X hX) rfl in_X9 3 (by decide) wf_X9_25 463 rfl 4 rfl dX9_undo_1 ?_
  refine w_get (lx_H hX) rfl in_X1 0 (by decide) wf_X9_320 rfl 7 rfl dX9_undo_4 ?_
  refine g_join 15 (fun a1 => [(0, .ref (wA Ω 0))]) (fun a1 => [.int a1]) (fun a1 => M) ?_ ?_
  · intro a1
    refine g_iconst 3 16 rfl dX9_undo_15 (by decide) ?_
    refine q_xSV [.int a1, .int 3] [] (c_X9_need l hO hl0 hT M a1 3) (fun _ _ => rfl) dX9_undo_16 us_X9_68 rfl yk_X9_need ⟨by decide, by decide⟩ (Nat.le_of_ble_eq_true rfl) rfl 19 rfl ?_
    intro u3
    refine g_aload_n 0 rfl rfl 20 rfl dX9_undo_19 ?_
    refine w_getR (lx_X hX) rfl in_X9 3 (by decide) wf_X9_25 463 rfl 23 rfl dX9_undo_20 ?_
    refine g_aload_n 0 rfl rfl 24 rfl dX9_undo_23 ?_
    refine w_getR (lx_X hX) rfl in_X9 0 (by decide) wf_X9_12 1 rfl 27 rfl dX9_undo_24 ?_
    refine g_cVV 463 [.ref (wA Ω 1)] [] (c_X1_popInto l hO hX isS_1 M) dX9_undo_27 uv_X9_372 rfl yk_X1_popInto ⟨by decide, by decide⟩ (lx_H hX).1 (lx_H hX).2 rfl (Nat.le_of_ble_eq_true rfl) rfl 30 rfl ?_
    intro u4 M5
    refine g_aload_n 0 rfl rfl 31 rfl dX9_undo_30 ?_
    refine w_getR (lx_X hX) rfl in_X9 3 (by decide) wf_X9_25 463 rfl 34 rfl dX9_undo_31 ?_
    refine w_get (lx_H hX) rfl in_X1 0 (by decide) wf_X9_320 rfl 37 rfl dX9_undo_34 ?_
    exact g_iretX rfl dX9_undo_37
  · intro k2 hk2
    refine g_if_le 14 (by decide) 10 rfl dX9_undo_7 ?_ ?_
    · refine g_iconst 0 15 rfl dX9_undo_14 (by decide) ?_
      exact hk2 0
    · refine g_iconst 1 11 rfl dX9_undo_10 (by decide) ?_
      refine g_goto 15 (by decide) dX9_undo_11 ?_
      exact hk2 1
def fX9_restore (M : Mem)  : Option ((Nat ⊕ Int32) × Mem) := clpm M (fX9_need M (M 0 8) 3) (fun u1 => cl (fX6_copyFrom M 1 85) (fun u2 M3 => bnd (mset M3 463 0 0) (fun M4 => some (.inr (M4 1 3), M4))))
set_option maxRecDepth 100000 in
set_option maxHeartbeats 4000000 in
theorem c_X9_restore {Ω : Wd} (l : Launch) (hO : OkW Ω) (hX : LX Ω) (hl0 : l.stackTraces = false) (hT : ThrOk Ω)  (M : Mem)  : ∀ r, fX9_restore M  = some r → Ct l yX9_restore (.code yX9_restore cX9_restore 1 (some .int)) 8 161 Ω [.ref (wA Ω 0)] M (cvIX r) := by
  refine ofG [(0, .ref (wA Ω 0))] hO (by decide) rfl (Nat.le_of_ble_eq_true rfl) rfl ?_
  intro p e s m args below meth c
  unfold fX9_restore
  refine g_aload_n 0 rfl rfl 1 rfl dX9_restore_0 ?_
  refine w_get (lx_X hX) rfl in_X9 8 (by decide) wf_X9_375 rfl 4 rfl dX9_restore_1 ?_
  refine g_iconst 3 5 rfl dX9_restore_4 (by decide) ?_
  refine q_xSV [.int (M 0 8), .int 3] [] (c_X9_need l hO hl0 hT M (M 0 8) 3) (fun _ _ => rfl) dX9_restore_5 us_X9_68 rfl yk_X9_need ⟨by decide, by decide⟩ (Nat.le_of_ble_eq_true rfl) rfl 8 rfl ?_
  intro u1
  refine g_aload_n 0 rfl rfl 9 rfl dX9_restore_8 ?_
  refine w_getR (lx_X hX) rfl in_X9 0 (by decide) wf_X9_12 1 rfl 12 rfl dX9_restore_9 ?_
  refine g_aload_n 0 rfl rfl 13 rfl dX9_restore_12 ?_
  refine w_getR (lx_X hX) rfl in_X9 2 (by decide) wf_X9_19 85 rfl 16 rfl dX9_restore_13 ?_
  refine g_cVV 1 [.ref (wA Ω 85)] [] (c_X6_copyFrom l hO hX isS_1 isS_85 M) dX9_restore_16 uv_X9_345 rfl yk_X6_copyFrom ⟨by decide, by decide⟩ (lx_S hX isS_1).1 (lx_S hX isS_1).2 rfl (Nat.le_of_ble_eq_true rfl) rfl 19 rfl ?_
  intro u2 M3
  refine g_aload_n 0 rfl rfl 20 rfl dX9_restore_19 ?_
  refine w_getR (lx_X hX) rfl in_X9 3 (by decide) wf_X9_25 463 rfl 23 rfl dX9_restore_20 ?_
  refine g_iconst 0 24 rfl dX9_restore_23 (by decide) ?_
  refine w_put (lx_H hX) rfl in_X1 0 (by decide) wf_X9_320 tyX1 tyX1_ok nmX1 rfl rfl rfl rfl 27 rfl dX9_restore_24 ?_
  intro M4
  refine g_aload_n 0 rfl rfl 28 rfl dX9_restore_27 ?_
  refine w_getR (lx_X hX) rfl in_X9 0 (by decide) wf_X9_12 1 rfl 31 rfl dX9_restore_28 ?_
  refine w_get (lx_S hX isS_1) rfl in_X6 3 (by decide) wf_X9_90 rfl 34 rfl dX9_restore_31 ?_
  exact g_iretX rfl dX9_restore_34
def fX9_setOffset (M : Mem) (p0 : Int32) (p1 : Int32) : Option ((Nat ⊕ Int32) × Mem) := clpm M (fX9_found M p0) (fun o1 => grd (isJb o1) (bnd (M o1 1) (fun x2 => bnd (mset M o1 1 p1) (fun M3 => some (.inr x2, M3)))))
set_option maxRecDepth 100000 in
set_option maxHeartbeats 4000000 in
theorem c_X9_setOffset {Ω : Wd} (l : Launch) (hO : OkW Ω) (hX : LX Ω) (hl0 : l.stackTraces = false) (hT : ThrOk Ω)  (M : Mem) (p0 : Int32) (p1 : Int32) : ∀ r, fX9_setOffset M p0 p1 = some r → Ct l yX9_setOffset (.code yX9_setOffset cX9_setOffset 5 (some .int)) 7 142 Ω [.ref (wA Ω 0), .int p0, .int p1] M (cvIX r) := by
  refine ofG [(0, .ref (wA Ω 0)), (1, .int p0), (2, .int p1)] hO (by decide) rfl (Nat.le_of_ble_eq_true rfl) rfl ?_
  intro p e s m args below meth c
  unfold fX9_setOffset
  refine g_aload_n 0 rfl rfl 1 rfl dX9_setOffset_0 ?_
  refine g_iload_n 1 rfl rfl 2 rfl dX9_setOffset_1 ?_
  refine q_xVR 0 [.int p0] [] (c_X9_found l hO hX hl0 hT M p0) (fun _ _ => rfl) dX9_setOffset_2 uv_X9_115 rfl yk_X9_found ⟨by decide, by decide⟩ (lx_X hX).1 (lx_X hX).2 rfl (Nat.le_of_ble_eq_true rfl) rfl 5 rfl ?_
  intro o1
  refine g_grd (fun ho10 => ?_)
  have ho1 := isJb_of ho10
  refine g_astore_nA [(3, .ref (wA Ω o1)), (0, .ref (wA Ω 0)), (1, .int p0), (2, .int p1)] rfl 6 rfl dX9_setOffset_5 (by decide) rfl ?_
  refine g_aload_n 0 rfl rfl 7 rfl dX9_setOffset_6 ?_
  refine w_get (lx_J hX ho1) rfl in_X2 1 (by decide) wf_X9_124 rfl 10 rfl dX9_setOffset_7 ?_
  refine g_istore (fun x2 => [(4, .int x2), (3, .ref (wA Ω o1)), (0, .ref (wA Ω 0)), (1, .int p0), (2, .int p1)]) 12 rfl dX9_setOffset_10 (by decide) (fun _ => rfl) ?_
  intro x2
  refine g_aload_n 1 rfl rfl 13 rfl dX9_setOffset_12 ?_
  refine g_iload_n 4 rfl rfl 14 rfl dX9_setOffset_13 ?_
  refine w_put (lx_J hX ho1) rfl in_X2 1 (by decide) wf_X9_124 tyX2 tyX2_ok nmX2 rfl rfl rfl rfl 17 rfl dX9_setOffset_14 ?_
  intro M3
  refine g_iload 0 rfl 19 rfl dX9_setOffset_17 ?_
  exact g_iretX rfl dX9_setOffset_19
def fX9_setRoadGroups (M : Mem) (p0 : Int32) (p1 : Int32) (p2 : Int32) : Option ((Nat ⊕ Int32) × Mem) := clpm M (fX9_found M p0) (fun o1 => grd (isJb o1) (clp (fX2_hasRoadGroup M o1 0) (fun x2 => jn (fun (a3 : Int32) => grd (inb 0 2) (bnd (mset M (o1 + 1) (0 : Int32).toNatClampNeg p1) (fun M5 => grd (inb 1 2) (bnd (mset M5 (o1 + 1) (1 : Int32).toNatClampNeg p2) (fun M6 => some (.inr a3, M6)))))) (fun k4 => if x2 = 0 then (k4 (-1)) else (grd (inb 0 2) (grd (inb 1 2) (k4 ((10 * (M (o1 + 1) (0 : Int32).toNatClampNeg)) + (M (o1 + 1) (1 : Int32).toNatClampNeg)))))))))
set_option maxRecDepth 100000 in
set_option maxHeartbeats 4000000 in
theorem c_X9_setRoadGroups {Ω : Wd} (l : Launch) (hO : OkW Ω) (hX : LX Ω) (hl0 : l.stackTraces = false) (hT : ThrOk Ω)  (M : Mem) (p0 : Int32) (p1 : Int32) (p2 : Int32) : ∀ r, fX9_setRoadGroups M p0 p1 p2 = some r → Ct l yX9_setRoadGroups (.code yX9_setRoadGroups cX9_setRoadGroups 6 (some .int)) 7 142 Ω [.ref (wA Ω 0), .int p0, .int p1, .int p2] M (cvIX r) := by
  refine ofG [(0, .ref (wA Ω 0)), (1, .int p0), (2, .int p1), (3, .int p2)] hO (by decide) rfl (Nat.le_of_ble_eq_true rfl) rfl ?_
  intro p e s m args below meth c
  unfold fX9_setRoadGroups
  refine g_aload_n 0 rfl rfl 1 rfl dX9_setRoadGroups_0 ?_
  refine g_iload_n 1 rfl rfl 2 rfl dX9_setRoadGroups_1 ?_
  refine q_xVR 0 [.int p0] [] (c_X9_found l hO hX hl0 hT M p0) (fun _ _ => rfl) dX9_setRoadGroups_2 uv_X9_115 rfl yk_X9_found ⟨by decide, by decide⟩ (lx_X hX).1 (lx_X hX).2 rfl (Nat.le_of_ble_eq_true rfl) rfl 5 rfl ?_
  intro o1
  refine g_grd (fun ho10 => ?_)
  have ho1 := isJb_of ho10
  refine g_astoreA [(4, .ref (wA Ω o1)), (0, .ref (wA Ω 0)), (1, .int p0), (2, .int p1), (3, .int p2)] 7 rfl dX9_setRoadGroups_5 (by decide) rfl ?_
  refine g_aload 0 rfl 9 rfl dX9_setRoadGroups_7 ?_
  refine g_iconst 0 10 rfl dX9_setRoadGroups_9 (by decide) ?_
  refine p_cVI o1 [.int 0] [] (c_X2_hasRoadGroup l hO hX ho1 M 0) dX9_setRoadGroups_10 uv_X9_379 rfl yk_X2_hasRoadGroup ⟨by decide, by decide⟩ (lx_J hX ho1).1 (lx_J hX ho1).2 rfl (Nat.le_of_ble_eq_true rfl) rfl 13 rfl ?_
  intro x2
  refine g_join 38 (fun a3 => [(2, .int p1), (3, .int p2), (4, .ref (wA Ω o1))]) (fun a3 => [.int a3]) (fun a3 => M) ?_ ?_
  · intro a3
    refine g_istoreA [(5, .int a3), (2, .int p1), (3, .int p2), (4, .ref (wA Ω o1))] 40 rfl dX9_setRoadGroups_38 (by decide) rfl ?_
    refine g_aload 3 rfl 42 rfl dX9_setRoadGroups_40 ?_
    refine w_getR (lx_J hX ho1) rfl in_X2 9 (by decide) wf_X9_382 (o1 + 1) rfl 45 rfl dX9_setRoadGroups_42 ?_
    refine g_iconst 0 46 rfl dX9_setRoadGroups_45 (by decide) ?_
    refine g_iload_n 1 rfl rfl 47 rfl dX9_setRoadGroups_46 ?_
    refine w_iast (lx_J1 hX ho1) 48 rfl dX9_setRoadGroups_47 ?_
    intro M5
    refine g_aload 3 rfl 50 rfl dX9_setRoadGroups_48 ?_
    refine w_getR (lx_J hX ho1) rfl in_X2 9 (by decide) wf_X9_382 (o1 + 1) rfl 53 rfl dX9_setRoadGroups_50 ?_
    refine g_iconst 1 54 rfl dX9_setRoadGroups_53 (by decide) ?_
    refine g_iload_n 2 rfl rfl 55 rfl dX9_setRoadGroups_54 ?_
    refine w_iast (lx_J1 hX ho1) 56 rfl dX9_setRoadGroups_55 ?_
    intro M6
    refine g_iload 0 rfl 58 rfl dX9_setRoadGroups_56 ?_
    exact g_iretX rfl dX9_setRoadGroups_58
  · intro k4 hk4
    refine g_if_eq 37 (by decide) 16 rfl dX9_setRoadGroups_13 ?_ ?_
    · refine g_iconst (-1) 38 rfl dX9_setRoadGroups_37 (by decide) ?_
      refine g_sub [(2, .int p1), (3, .int p2), (4, .ref (wA Ω o1))] [3, 4, 0] rfl ?_
      exact hk4 (-1)
    · refine g_bipush 10 18 rfl dX9_setRoadGroups_16 (by decide) ?_
      refine g_aload 0 rfl 20 rfl dX9_setRoadGroups_18 ?_
      refine w_getR (lx_J hX ho1) rfl in_X2 9 (by decide) wf_X9_382 (o1 + 1) rfl 23 rfl dX9_setRoadGroups_20 ?_
      refine g_iconst 0 24 rfl dX9_setRoadGroups_23 (by decide) ?_
      refine w_iald (lx_J1 hX ho1) 25 rfl dX9_setRoadGroups_24 ?_
      refine g_imul 26 rfl dX9_setRoadGroups_25 ?_
      refine g_aload 0 rfl 28 rfl dX9_setRoadGroups_26 ?_
      refine w_getR (lx_J hX ho1) rfl in_X2 9 (by decide) wf_X9_382 (o1 + 1) rfl 31 rfl dX9_setRoadGroups_28 ?_
      refine g_iconst 1 32 rfl dX9_setRoadGroups_31 (by decide) ?_
      refine w_iald (lx_J1 hX ho1) 33 rfl dX9_setRoadGroups_32 ?_
      refine g_iadd 34 rfl dX9_setRoadGroups_33 ?_
      refine g_goto 38 (by decide) dX9_setRoadGroups_34 ?_
      refine g_sub [(2, .int p1), (3, .int p2), (4, .ref (wA Ω o1))] [3, 4, 0] rfl ?_
      exact hk4 ((10 * (M (o1 + 1) (0 : Int32).toNatClampNeg)) + (M (o1 + 1) (1 : Int32).toNatClampNeg))
def fX9_greenFault (M : Mem) (p0 : Int32) (p1 : Int32) (p2 : Int32) (p3 : Int32) (p4 : Int32) : Option (Int32 × Mem) := clpn (fX6_find M 1 p0) (some (1, M)) (fun o1 => grd (isJb o1) (clp (fX9_isPlan M p1) (fun x2 => if x2 = 0 then (some (1, M)) else (clp (fX2_hasGroup M o1 p2) (fun x3 => if x3 = 0 then (some (1, M)) else (clp (fX9_isGreen M p3 p4) (fun x4 => if x4 = 0 then (some (2, M)) else (clp (fX2_isChangePlanned M o1) (fun x5 => if x5 = 0 then (clp (fX2_reasonAgainstGreen M o1 p1 p2 p3 p4 (M 1 0)) (fun x6 => cl (fX9_faultOfReason M x6) (fun x7 M8 => some (x7, M8)))) else (some (3, M)))))))))))
set_option maxRecDepth 100000 in
set_option maxHeartbeats 4000000 in
theorem c_X9_greenFault {Ω : Wd} (l : Launch) (hO : OkW Ω) (hX : LX Ω)  (M : Mem) (p0 : Int32) (p1 : Int32) (p2 : Int32) (p3 : Int32) (p4 : Int32) : ∀ r, fX9_greenFault M p0 p1 p2 p3 p4 = some r → Ct l yX9_greenFault (.code yX9_greenFault cX9_greenFault 7 (some .int)) 4 105 Ω [.ref (wA Ω 0), .int p0, .int p1, .int p2, .int p3, .int p4] M (cvI r) := by
  refine ofG [(0, .ref (wA Ω 0)), (1, .int p0), (2, .int p1), (3, .int p2), (4, .int p3), (5, .int p4)] hO (by decide) rfl (Nat.le_of_ble_eq_true rfl) rfl ?_
  intro p e s m args below meth c
  unfold fX9_greenFault
  refine g_aload_n 0 rfl rfl 1 rfl dX9_greenFault_0 ?_
  refine w_getR (lx_X hX) rfl in_X9 0 (by decide) wf_X9_12 1 rfl 4 rfl dX9_greenFault_1 ?_
  refine g_iload_n 1 rfl rfl 5 rfl dX9_greenFault_4 ?_
  refine p_cVN 1 [.int p0] [] (c_X6_find l hO hX isS_1 M p0) dX9_greenFault_5 uv_X9_287 rfl yk_X6_find ⟨by decide, by decide⟩ (lx_S hX isS_1).1 (lx_S hX isS_1).2 rfl (Nat.le_of_ble_eq_true rfl) rfl 8 rfl ?_ ?_
  · refine g_astoreNA [(6, .null), (0, .ref (wA Ω 0)), (1, .int p0), (2, .int p1), (3, .int p2), (4, .int p3), (5, .int p4)] 10 rfl dX9_greenFault_8 (by decide) rfl ?_
    refine g_aloadN 0 rfl 12 rfl dX9_greenFault_10 ?_
    refine g_ifnullN 31 (by decide) dX9_greenFault_12 ?_
    refine g_iconst 1 32 rfl dX9_greenFault_31 (by decide) ?_
    exact g_iret rfl dX9_greenFault_32
  · intro o1
    refine g_grd (fun ho10 => ?_)
    have ho1 := isJb_of ho10
    refine g_astoreA [(6, .ref (wA Ω o1)), (0, .ref (wA Ω 0)), (1, .int p0), (2, .int p1), (3, .int p2), (4, .int p3), (5, .int p4)] 10 rfl dX9_greenFault_8 (by decide) rfl ?_
    refine g_aload 0 rfl 12 rfl dX9_greenFault_10 ?_
    refine g_ifnull 15 rfl dX9_greenFault_12 ?_
    refine g_iload_n 3 rfl rfl 16 rfl dX9_greenFault_15 ?_
    refine p_cSI [.int p1] [] (c_X9_isPlan l hO M p1) dX9_greenFault_16 us_X9_222 rfl yk_X9_isPlan ⟨by decide, by decide⟩ (Nat.le_of_ble_eq_true rfl) rfl 19 rfl ?_
    intro x2
    refine g_if_eq 31 (by decide) 22 rfl dX9_greenFault_19 ?_ ?_
    · refine g_iconst 1 32 rfl dX9_greenFault_31 (by decide) ?_
      exact g_iret rfl dX9_greenFault_32
    · refine g_aload 0 rfl 24 rfl dX9_greenFault_22 ?_
      refine g_iload_n 4 rfl rfl 25 rfl dX9_greenFault_24 ?_
      refine p_cVI o1 [.int p2] [] (c_X2_hasGroup l hO hX ho1 M p2) dX9_greenFault_25 uv_X9_188 rfl yk_X2_hasGroup ⟨by decide, by decide⟩ (lx_J hX ho1).1 (lx_J hX ho1).2 rfl (Nat.le_of_ble_eq_true rfl) rfl 28 rfl ?_
      intro x3
      refine g_if_ne 33 (by decide) 31 rfl dX9_greenFault_28 ?_ ?_
      · refine g_iconst 1 32 rfl dX9_greenFault_31 (by decide) ?_
        exact g_iret rfl dX9_greenFault_32
      · refine g_aload_n 1 rfl rfl 34 rfl dX9_greenFault_33 ?_
        refine g_iload 5 rfl 36 rfl dX9_greenFault_34 ?_
        refine g_iload 6 rfl 38 rfl dX9_greenFault_36 ?_
        refine p_cVI 0 [.int p3, .int p4] [] (c_X9_isGreen l hO hX M p3 p4) dX9_greenFault_38 uv_X9_225 rfl yk_X9_isGreen ⟨by decide, by decide⟩ (lx_X hX).1 (lx_X hX).2 rfl (Nat.le_of_ble_eq_true rfl) rfl 41 rfl ?_
        intro x4
        refine g_if_ne 46 (by decide) 44 rfl dX9_greenFault_41 ?_ ?_
        · refine g_iconst 2 45 rfl dX9_greenFault_44 (by decide) ?_
          exact g_iret rfl dX9_greenFault_45
        · refine g_aload 0 rfl 48 rfl dX9_greenFault_46 ?_
          refine p_cVI o1 [] [] (c_X2_isChangePlanned l hO hX ho1 M) dX9_greenFault_48 uv_X9_194 rfl yk_X2_isChangePlanned ⟨by decide, by decide⟩ (lx_J hX ho1).1 (lx_J hX ho1).2 rfl (Nat.le_of_ble_eq_true rfl) rfl 51 rfl ?_
          intro x5
          refine g_if_eq 56 (by decide) 54 rfl dX9_greenFault_51 ?_ ?_
          · refine g_aload_n 1 rfl rfl 57 rfl dX9_greenFault_56 ?_
            refine g_aload 0 rfl 59 rfl dX9_greenFault_57 ?_
            refine g_iload_n 3 rfl rfl 60 rfl dX9_greenFault_59 ?_
            refine g_iload_n 4 rfl rfl 61 rfl dX9_greenFault_60 ?_
            refine g_iload 5 rfl 63 rfl dX9_greenFault_61 ?_
            refine g_iload 6 rfl 65 rfl dX9_greenFault_63 ?_
            refine g_aload_n 1 rfl rfl 66 rfl dX9_greenFault_65 ?_
            refine w_getR (lx_X hX) rfl in_X9 0 (by decide) wf_X9_12 1 rfl 69 rfl dX9_greenFault_66 ?_
            refine w_get (lx_S hX isS_1) rfl in_X6 0 (by decide) wf_X9_80 rfl 72 rfl dX9_greenFault_69 ?_
            refine p_cVI o1 [.int p1, .int p2, .int p3, .int p4, .int (M 1 0)] [.ref (wA Ω 0)] (c_X2_reasonAgainstGreen l hO hX ho1 M p1 p2 p3 p4 (M 1 0)) dX9_greenFault_72 uv_X9_228 rfl yk_X2_reasonAgainstGreen ⟨by decide, by decide⟩ (lx_J hX ho1).1 (lx_J hX ho1).2 rfl (Nat.le_of_ble_eq_true rfl) rfl 75 rfl ?_
            intro x6
            refine g_cVI 0 [.int x6] [] (c_X9_faultOfReason l hO hX M x6) dX9_greenFault_75 uv_X9_202 rfl yk_X9_faultOfReason ⟨by decide, by decide⟩ (lx_X hX).1 (lx_X hX).2 rfl (Nat.le_of_ble_eq_true rfl) rfl 78 rfl ?_
            intro x7 M8
            exact g_iret rfl dX9_greenFault_78
          · refine g_iconst 3 55 rfl dX9_greenFault_54 (by decide) ?_
            exact g_iret rfl dX9_greenFault_55
def fX9_giveGreen (M : Mem) (p0 : Int32) (p1 : Int32) (p2 : Int32) (p3 : Int32) (p4 : Int32) : Option ((Nat ⊕ Int32) × Mem) := clpm M (fX9_found M p0) (fun o1 => grd (isJb o1) (cl (fX2_setGreen M o1 p1 p2 p3 p4) (fun u2 M3 => clp (fX2_greenCount M3 o1 p1) (fun x4 => some (.inr x4, M3)))))
set_option maxRecDepth 100000 in
set_option maxHeartbeats 4000000 in
theorem c_X9_giveGreen {Ω : Wd} (l : Launch) (hO : OkW Ω) (hX : LX Ω) (hl0 : l.stackTraces = false) (hT : ThrOk Ω)  (M : Mem) (p0 : Int32) (p1 : Int32) (p2 : Int32) (p3 : Int32) (p4 : Int32) : ∀ r, fX9_giveGreen M p0 p1 p2 p3 p4 = some r → Ct l yX9_giveGreen (.code yX9_giveGreen cX9_giveGreen 7 (some .int)) 7 142 Ω [.ref (wA Ω 0), .int p0, .int p1, .int p2, .int p3, .int p4] M (cvIX r) := by
  refine ofG [(0, .ref (wA Ω 0)), (1, .int p0), (2, .int p1), (3, .int p2), (4, .int p3), (5, .int p4)] hO (by decide) rfl (Nat.le_of_ble_eq_true rfl) rfl ?_
  intro p e s m args below meth c
  unfold fX9_giveGreen
  refine g_aload_n 0 rfl rfl 1 rfl dX9_giveGreen_0 ?_
  refine g_iload_n 1 rfl rfl 2 rfl dX9_giveGreen_1 ?_
  refine q_xVR 0 [.int p0] [] (c_X9_found l hO hX hl0 hT M p0) (fun _ _ => rfl) dX9_giveGreen_2 uv_X9_115 rfl yk_X9_found ⟨by decide, by decide⟩ (lx_X hX).1 (lx_X hX).2 rfl (Nat.le_of_ble_eq_true rfl) rfl 5 rfl ?_
  intro o1
  refine g_grd (fun ho10 => ?_)
  have ho1 := isJb_of ho10
  refine g_astoreA [(6, .ref (wA Ω o1)), (0, .ref (wA Ω 0)), (1, .int p0), (2, .int p1), (3, .int p2), (4, .int p3), (5, .int p4)] 7 rfl dX9_giveGreen_5 (by decide) rfl ?_
  refine g_aload 0 rfl 9 rfl dX9_giveGreen_7 ?_
  refine g_iload_n 3 rfl rfl 10 rfl dX9_giveGreen_9 ?_
  refine g_iload_n 4 rfl rfl 11 rfl dX9_giveGreen_10 ?_
  refine g_iload 5 rfl 13 rfl dX9_giveGreen_11 ?_
  refine g_iload 6 rfl 15 rfl dX9_giveGreen_13 ?_
  refine g_cVV o1 [.int p1, .int p2, .int p3, .int p4] [] (c_X2_setGreen l hO hX ho1 M p1 p2 p3 p4) dX9_giveGreen_15 uv_X9_234 rfl yk_X2_setGreen ⟨by decide, by decide⟩ (lx_J hX ho1).1 (lx_J hX ho1).2 rfl (Nat.le_of_ble_eq_true rfl) rfl 18 rfl ?_
  intro u2 M3
  refine g_aload 0 rfl 20 rfl dX9_giveGreen_18 ?_
  refine g_iload_n 3 rfl rfl 21 rfl dX9_giveGreen_20 ?_
  refine p_cVI o1 [.int p1] [] (c_X2_greenCount l hO hX ho1 M3 p1) dX9_giveGreen_21 uv_X9_385 rfl yk_X2_greenCount ⟨by decide, by decide⟩ (lx_J hX ho1).1 (lx_J hX ho1).2 rfl (Nat.le_of_ble_eq_true rfl) rfl 24 rfl ?_
  intro x4
  exact g_iretX rfl dX9_giveGreen_24
def fX9_makeRequest (M : Mem) (p0 : Int32) (p1 : Int32) : Option ((Nat ⊕ Int32) × Mem) := clpm M (fX9_found M p0) (fun o1 => grd (isJb o1) (clp (fX2_isWaiting M o1 p1) (fun x2 => jn (fun (a3 : Mem) => clp (fX2_waitingCount a3 o1) (fun x5 => some (.inr x5, a3))) (fun k4 => if x2 = 0 then (grd (inb p1 6) (bnd (mset M (o1 + 5) p1.toNatClampNeg (M 1 2)) (fun M6 => k4 M6))) else (k4 M)))))
set_option maxRecDepth 100000 in
set_option maxHeartbeats 4000000 in
theorem c_X9_makeRequest {Ω : Wd} (l : Launch) (hO : OkW Ω) (hX : LX Ω) (hl0 : l.stackTraces = false) (hT : ThrOk Ω)  (M : Mem) (p0 : Int32) (p1 : Int32) : ∀ r, fX9_makeRequest M p0 p1 = some r → Ct l yX9_makeRequest (.code yX9_makeRequest cX9_makeRequest 4 (some .int)) 7 142 Ω [.ref (wA Ω 0), .int p0, .int p1] M (cvIX r) := by
  refine ofG [(0, .ref (wA Ω 0)), (1, .int p0), (2, .int p1)] hO (by decide) rfl (Nat.le_of_ble_eq_true rfl) rfl ?_
  intro p e s m args below meth c
  unfold fX9_makeRequest
  refine g_aload_n 0 rfl rfl 1 rfl dX9_makeRequest_0 ?_
  refine g_iload_n 1 rfl rfl 2 rfl dX9_makeRequest_1 ?_
  refine q_xVR 0 [.int p0] [] (c_X9_found l hO hX hl0 hT M p0) (fun _ _ => rfl) dX9_makeRequest_2 uv_X9_115 rfl yk_X9_found ⟨by decide, by decide⟩ (lx_X hX).1 (lx_X hX).2 rfl (Nat.le_of_ble_eq_true rfl) rfl 5 rfl ?_
  intro o1
  refine g_grd (fun ho10 => ?_)
  have ho1 := isJb_of ho10
  refine g_astore_nA [(3, .ref (wA Ω o1)), (0, .ref (wA Ω 0)), (1, .int p0), (2, .int p1)] rfl 6 rfl dX9_makeRequest_5 (by decide) rfl ?_
  refine g_aload_n 0 rfl rfl 7 rfl dX9_makeRequest_6 ?_
  refine g_iload_n 3 rfl rfl 8 rfl dX9_makeRequest_7 ?_
  refine p_cVI o1 [.int p1] [] (c_X2_isWaiting l hO hX ho1 M p1) dX9_makeRequest_8 uv_X9_388 rfl yk_X2_isWaiting ⟨by decide, by decide⟩ (lx_J hX ho1).1 (lx_J hX ho1).2 rfl (Nat.le_of_ble_eq_true rfl) rfl 11 rfl ?_
  intro x2
  refine g_join 27 (fun a3 => [(3, .ref (wA Ω o1))]) (fun a3 => []) (fun a3 => a3) ?_ ?_
  · intro a3
    refine g_aload_n 0 rfl rfl 28 rfl dX9_makeRequest_27 ?_
    refine p_cVI o1 [] [] (c_X2_waitingCount l hO hX ho1 a3) dX9_makeRequest_28 uv_X9_391 rfl yk_X2_waitingCount ⟨by decide, by decide⟩ (lx_J hX ho1).1 (lx_J hX ho1).2 rfl (Nat.le_of_ble_eq_true rfl) rfl 31 rfl ?_
    intro x5
    exact g_iretX rfl dX9_makeRequest_31
  · intro k4 hk4
    refine g_if_ne 27 (by decide) 14 rfl dX9_makeRequest_11 ?_ ?_
    · refine g_aload_n 0 rfl rfl 15 rfl dX9_makeRequest_14 ?_
      refine w_getR (lx_J hX ho1) rfl in_X2 13 (by decide) wf_X9_179 (o1 + 5) rfl 18 rfl dX9_makeRequest_15 ?_
      refine g_iload_n 3 rfl rfl 19 rfl dX9_makeRequest_18 ?_
      refine g_aload_n 1 rfl rfl 20 rfl dX9_makeRequest_19 ?_
      refine w_getR (lx_X hX) rfl in_X9 0 (by decide) wf_X9_12 1 rfl 23 rfl dX9_makeRequest_20 ?_
      refine w_get (lx_S hX isS_1) rfl in_X6 2 (by decide) wf_X9_130 rfl 26 rfl dX9_makeRequest_23 ?_
      refine w_iast (lx_J5 hX ho1) 27 rfl dX9_makeRequest_26 ?_
      intro M6
      refine g_sub [(3, .ref (wA Ω o1))] [0] rfl ?_
      exact hk4 M6
    · refine g_sub [(3, .ref (wA Ω o1))] [0] rfl ?_
      exact hk4 M
def fX9_foundWith (M : Mem) (p0 : Int32) (p1 : Int32) : Option (Nat ⊕ Nat) := clpx (fX9_found M p0) (fun o1 => grd (isJb o1) (clp (fX2_hasGroup M o1 p1) (fun x2 => clpx (fX9_need M x2 1) (fun u3 => some (.inr o1)))))
set_option maxRecDepth 100000 in
set_option maxHeartbeats 4000000 in
theorem c_X9_foundWith {Ω : Wd} (l : Launch) (hO : OkW Ω) (hX : LX Ω) (hl0 : l.stackTraces = false) (hT : ThrOk Ω)  (M : Mem) (p0 : Int32) (p1 : Int32) : ∀ r, fX9_foundWith M p0 p1 = some r → Ct l yX9_foundWith (.code yX9_foundWith cX9_foundWith 4 (some (.object "SignalRoad$Junction"))) 8 161 Ω [.ref (wA Ω 0), .int p0, .int p1] M ((cpRX Ω M) r) := by
  refine ofG [(0, .ref (wA Ω 0)), (1, .int p0), (2, .int p1)] hO (by decide) rfl (Nat.le_of_ble_eq_true rfl) rfl ?_
  intro p e s m args below meth c
  unfold fX9_foundWith
  refine g_aload_n 0 rfl rfl 1 rfl dX9_foundWith_0 ?_
  refine g_iload_n 1 rfl rfl 2 rfl dX9_foundWith_1 ?_
  refine p_xVR 0 [.int p0] [] (c_X9_found l hO hX hl0 hT M p0) (fun _ => rfl) dX9_foundWith_2 uv_X9_115 rfl yk_X9_found ⟨by decide, by decide⟩ (lx_X hX).1 (lx_X hX).2 rfl (Nat.le_of_ble_eq_true rfl) rfl 5 rfl ?_
  intro o1
  refine g_grd (fun ho10 => ?_)
  have ho1 := isJb_of ho10
  refine g_astore_nA [(3, .ref (wA Ω o1)), (0, .ref (wA Ω 0)), (1, .int p0), (2, .int p1)] rfl 6 rfl dX9_foundWith_5 (by decide) rfl ?_
  refine g_aload_n 0 rfl rfl 7 rfl dX9_foundWith_6 ?_
  refine g_iload_n 3 rfl rfl 8 rfl dX9_foundWith_7 ?_
  refine p_cVI o1 [.int p1] [] (c_X2_hasGroup l hO hX ho1 M p1) dX9_foundWith_8 uv_X9_188 rfl yk_X2_hasGroup ⟨by decide, by decide⟩ (lx_J hX ho1).1 (lx_J hX ho1).2 rfl (Nat.le_of_ble_eq_true rfl) rfl 11 rfl ?_
  intro x2
  refine g_iconst 1 12 rfl dX9_foundWith_11 (by decide) ?_
  refine p_xSV [.int x2, .int 1] [] (c_X9_need l hO hl0 hT M x2 1) (fun _ => rfl) dX9_foundWith_12 us_X9_68 rfl yk_X9_need ⟨by decide, by decide⟩ (Nat.le_of_ble_eq_true rfl) rfl 15 rfl ?_
  intro u3
  refine g_aload_n 0 rfl rfl 16 rfl dX9_foundWith_15 ?_
  exact p_aretX (Or.inl ⟨_, rfl⟩) rfl dX9_foundWith_16
def fX9_offset (M : Mem) (p0 : Int32) (p1 : Int32) : Option ((Nat ⊕ Int32) × Mem) := clp (fX9_offsetFault M p0 p1) (fun x1 => clpm M (fX9_raise M x1) (fun u2 => cl (fX1_push M 1) (fun u3 M4 => clx (fX9_setOffset M4 p0 p1) (fun x5 M6 => some (.inr x5, M6)))))
set_option maxRecDepth 100000 in
set_option maxHeartbeats 4000000 in
theorem c_X9_offset {Ω : Wd} (l : Launch) (hO : OkW Ω) (hX : LX Ω) (hl0 : l.stackTraces = false) (hT : ThrOk Ω)  (M : Mem) (p0 : Int32) (p1 : Int32) : ∀ r, fX9_offset M p0 p1 = some r → Ct l yX9_offset (.code yX9_offset cX9_offset 3 (some .int)) 8 166 Ω [.ref (wA Ω 0), .int p0, .int p1] M (cvIX r) := by
  refine ofG [(0, .ref (wA Ω 0)), (1, .int p0), (2, .int p1)] hO (by decide) rfl (Nat.le_of_ble_eq_true rfl) rfl ?_
  intro p e s m args below meth c
  unfold fX9_offset
  refine g_aload_n 0 rfl rfl 1 rfl dX9_offset_0 ?_
  refine g_iload_n 1 rfl rfl 2 rfl dX9_offset_1 ?_
  refine g_iload_n 2 rfl rfl 3 rfl dX9_offset_2 ?_
  refine p_cVI 0 [.int p0, .int p1] [] (c_X9_offsetFault l hO hX M p0 p1) dX9_offset_3 uv_X9_97 rfl yk_X9_offsetFault ⟨by decide, by decide⟩ (lx_X hX).1 (lx_X hX).2 rfl (Nat.le_of_ble_eq_true rfl) rfl 6 rfl ?_
  intro x1
  refine q_xSV [.int x1] [] (c_X9_raise l hO hl0 hT M x1) (fun _ _ => rfl) dX9_offset_6 us_X9_101 rfl yk_X9_raise ⟨by decide, by decide⟩ (Nat.le_of_ble_eq_true rfl) rfl 9 rfl ?_
  intro u2
  refine g_aload_n 0 rfl rfl 10 rfl dX9_offset_9 ?_
  refine w_getR (lx_X hX) rfl in_X9 3 (by decide) wf_X9_25 463 rfl 13 rfl dX9_offset_10 ?_
  refine g_aload_n 0 rfl rfl 14 rfl dX9_offset_13 ?_
  refine w_getR (lx_X hX) rfl in_X9 0 (by decide) wf_X9_12 1 rfl 17 rfl dX9_offset_14 ?_
  refine g_cVV 463 [.ref (wA Ω 1)] [] (c_X1_push l hO hX isS_1 M) dX9_offset_17 uv_X9_76 rfl yk_X1_push ⟨by decide, by decide⟩ (lx_H hX).1 (lx_H hX).2 rfl (Nat.le_of_ble_eq_true rfl) rfl 20 rfl ?_
  intro u3 M4
  refine g_aload_n 0 rfl rfl 21 rfl dX9_offset_20 ?_
  refine g_iload_n 1 rfl rfl 22 rfl dX9_offset_21 ?_
  refine g_iload_n 2 rfl rfl 23 rfl dX9_offset_22 ?_
  refine g_xVI 0 [.int p0, .int p1] [] (c_X9_setOffset l hO hX hl0 hT M4 p0 p1) (fun _ _ => rfl) dX9_offset_23 uv_X9_105 rfl yk_X9_setOffset ⟨by decide, by decide⟩ (lx_X hX).1 (lx_X hX).2 rfl (Nat.le_of_ble_eq_true rfl) rfl 26 rfl ?_
  intro x5 M6
  exact g_iretX rfl dX9_offset_26
def fX9_road (M : Mem) (p0 : Int32) (p1 : Int32) (p2 : Int32) : Option ((Nat ⊕ Int32) × Mem) := clp (fX9_roadFault M p0 p1 p2) (fun x1 => clpm M (fX9_raise M x1) (fun u2 => cl (fX1_push M 1) (fun u3 M4 => clx (fX9_setRoadGroups M4 p0 p1 p2) (fun x5 M6 => some (.inr x5, M6)))))
set_option maxRecDepth 100000 in
set_option maxHeartbeats 4000000 in
theorem c_X9_road {Ω : Wd} (l : Launch) (hO : OkW Ω) (hX : LX Ω) (hl0 : l.stackTraces = false) (hT : ThrOk Ω)  (M : Mem) (p0 : Int32) (p1 : Int32) (p2 : Int32) : ∀ r, fX9_road M p0 p1 p2 = some r → Ct l yX9_road (.code yX9_road cX9_road 4 (some .int)) 8 167 Ω [.ref (wA Ω 0), .int p0, .int p1, .int p2] M (cvIX r) := by
  refine ofG [(0, .ref (wA Ω 0)), (1, .int p0), (2, .int p1), (3, .int p2)] hO (by decide) rfl (Nat.le_of_ble_eq_true rfl) rfl ?_
  intro p e s m args below meth c
  unfold fX9_road
  refine g_aload_n 0 rfl rfl 1 rfl dX9_road_0 ?_
  refine g_iload_n 1 rfl rfl 2 rfl dX9_road_1 ?_
  refine g_iload_n 2 rfl rfl 3 rfl dX9_road_2 ?_
  refine g_iload_n 3 rfl rfl 4 rfl dX9_road_3 ?_
  refine p_cVI 0 [.int p0, .int p1, .int p2] [] (c_X9_roadFault l hO hX M p0 p1 p2) dX9_road_4 uv_X9_108 rfl yk_X9_roadFault ⟨by decide, by decide⟩ (lx_X hX).1 (lx_X hX).2 rfl (Nat.le_of_ble_eq_true rfl) rfl 7 rfl ?_
  intro x1
  refine q_xSV [.int x1] [] (c_X9_raise l hO hl0 hT M x1) (fun _ _ => rfl) dX9_road_7 us_X9_101 rfl yk_X9_raise ⟨by decide, by decide⟩ (Nat.le_of_ble_eq_true rfl) rfl 10 rfl ?_
  intro u2
  refine g_aload_n 0 rfl rfl 11 rfl dX9_road_10 ?_
  refine w_getR (lx_X hX) rfl in_X9 3 (by decide) wf_X9_25 463 rfl 14 rfl dX9_road_11 ?_
  refine g_aload_n 0 rfl rfl 15 rfl dX9_road_14 ?_
  refine w_getR (lx_X hX) rfl in_X9 0 (by decide) wf_X9_12 1 rfl 18 rfl dX9_road_15 ?_
  refine g_cVV 463 [.ref (wA Ω 1)] [] (c_X1_push l hO hX isS_1 M) dX9_road_18 uv_X9_76 rfl yk_X1_push ⟨by decide, by decide⟩ (lx_H hX).1 (lx_H hX).2 rfl (Nat.le_of_ble_eq_true rfl) rfl 21 rfl ?_
  intro u3 M4
  refine g_aload_n 0 rfl rfl 22 rfl dX9_road_21 ?_
  refine g_iload_n 1 rfl rfl 23 rfl dX9_road_22 ?_
  refine g_iload_n 2 rfl rfl 24 rfl dX9_road_23 ?_
  refine g_iload_n 3 rfl rfl 25 rfl dX9_road_24 ?_
  refine g_xVI 0 [.int p0, .int p1, .int p2] [] (c_X9_setRoadGroups l hO hX hl0 hT M4 p0 p1 p2) (fun _ _ => rfl) dX9_road_25 uv_X9_112 rfl yk_X9_setRoadGroups ⟨by decide, by decide⟩ (lx_X hX).1 (lx_X hX).2 rfl (Nat.le_of_ble_eq_true rfl) rfl 28 rfl ?_
  intro x5 M6
  exact g_iretX rfl dX9_road_28
def fX9_groupTold (M : Mem) (p0 : Int32) (p1 : Int32) (p2 : Int32) : Option (Nat ⊕ Int32) := clpx (fX9_foundWith M p0 p1) (fun o1 => grd (isJb o1) (if p2 = 0 then (grd (inb p1 6) (some (.inr (M (o1 + 2) p1.toNatClampNeg)))) else (if p2 = 1 then (grd (inb p1 6) (some (.inr (M (o1 + 3) p1.toNatClampNeg)))) else (if p2 = 2 then (clp (fX2_isByRequest M o1 p1) (fun x7 => jn (fun (a8 : Int32) => some (.inr a8)) (fun k9 => if x7 = 0 then (k9 0) else (k9 1)))) else (if p2 = 3 then (clp (fX2_conflictSet M o1 p1) (fun x6 => some (.inr x6))) else (if p2 = 4 then (grd (inb p1 6) (some (.inr (M (o1 + 4) p1.toNatClampNeg)))) else (if p2 = 5 then (grd (inb p1 6) (some (.inr (M (o1 + 5) p1.toNatClampNeg)))) else (if p2 = 6 then (clp (fX2_isGiven M o1 p1) (fun x3 => jn (fun (a4 : Int32) => some (.inr a4)) (fun k5 => if x3 = 0 then (k5 0) else (k5 1)))) else (if p2 = 7 then (clp (fX2_headCount M o1 p1) (fun x2 => some (.inr x2))) else (some (.inl 1)))))))))))
set_option maxRecDepth 100000 in
set_option maxHeartbeats 4000000 in
theorem c_X9_groupTold {Ω : Wd} (l : Launch) (hO : OkW Ω) (hX : LX Ω) (hl0 : l.stackTraces = false) (hT : ThrOk Ω)  (M : Mem) (p0 : Int32) (p1 : Int32) (p2 : Int32) : ∀ r, fX9_groupTold M p0 p1 p2 = some r → Ct l yX9_groupTold (.code yX9_groupTold cX9_groupTold 5 (some .int)) 9 184 Ω [.ref (wA Ω 0), .int p0, .int p1, .int p2] M ((cpIX M) r) := by
  refine ofG [(0, .ref (wA Ω 0)), (1, .int p0), (2, .int p1), (3, .int p2)] hO (by decide) rfl (Nat.le_of_ble_eq_true rfl) rfl ?_
  intro p e s m args below meth c
  unfold fX9_groupTold
  refine g_aload_n 0 rfl rfl 1 rfl dX9_groupTold_0 ?_
  refine g_iload_n 1 rfl rfl 2 rfl dX9_groupTold_1 ?_
  refine g_iload_n 2 rfl rfl 3 rfl dX9_groupTold_2 ?_
  refine p_xVR 0 [.int p0, .int p1] [] (c_X9_foundWith l hO hX hl0 hT M p0 p1) (fun _ => rfl) dX9_groupTold_3 uv_X9_159 rfl yk_X9_foundWith ⟨by decide, by decide⟩ (lx_X hX).1 (lx_X hX).2 rfl (Nat.le_of_ble_eq_true rfl) rfl 6 rfl ?_
  intro o1
  refine g_grd (fun ho10 => ?_)
  have ho1 := isJb_of ho10
  refine g_astoreA [(4, .ref (wA Ω o1)), (0, .ref (wA Ω 0)), (1, .int p0), (2, .int p1), (3, .int p2)] 8 rfl dX9_groupTold_6 (by decide) rfl ?_
  refine g_iload_n 4 rfl rfl 9 rfl dX9_groupTold_8 ?_
  refine g_case ?_ ?_
  · intro h9_0
    refine g_tin (off := 47) 56 (by rw [h9_0]; decide) (by rw [h9_0]; decide) (by rw [h9_0]; rfl) (by decide) dX9_groupTold_9 ?_
    refine g_aload 0 rfl 58 rfl dX9_groupTold_56 ?_
    refine w_getR (lx_J hX ho1) rfl in_X2 10 (by decide) wf_X9_163 (o1 + 2) rfl 61 rfl dX9_groupTold_58 ?_
    refine g_iload_n 3 rfl rfl 62 rfl dX9_groupTold_61 ?_
    refine w_iald (lx_J2 hX ho1) 63 rfl dX9_groupTold_62 ?_
    exact p_iretX rfl dX9_groupTold_63
  · intro h9_0
    refine g_case ?_ ?_
    · intro h9_1
      refine g_tin (off := 55) 64 (by rw [h9_1]; decide) (by rw [h9_1]; decide) (by rw [h9_1]; rfl) (by decide) dX9_groupTold_9 ?_
      refine g_aload 0 rfl 66 rfl dX9_groupTold_64 ?_
      refine w_getR (lx_J hX ho1) rfl in_X2 11 (by decide) wf_X9_167 (o1 + 3) rfl 69 rfl dX9_groupTold_66 ?_
      refine g_iload_n 3 rfl rfl 70 rfl dX9_groupTold_69 ?_
      refine w_iald (lx_J3 hX ho1) 71 rfl dX9_groupTold_70 ?_
      exact p_iretX rfl dX9_groupTold_71
    · intro h9_1
      refine g_case ?_ ?_
      · intro h9_2
        refine g_tin (off := 63) 72 (by rw [h9_2]; decide) (by rw [h9_2]; decide) (by rw [h9_2]; rfl) (by decide) dX9_groupTold_9 ?_
        refine g_aload 0 rfl 74 rfl dX9_groupTold_72 ?_
        refine g_iload_n 3 rfl rfl 75 rfl dX9_groupTold_74 ?_
        refine p_cVI o1 [.int p1] [] (c_X2_isByRequest l hO hX ho1 M p1) dX9_groupTold_75 uv_X9_170 rfl yk_X2_isByRequest ⟨by decide, by decide⟩ (lx_J hX ho1).1 (lx_J hX ho1).2 rfl (Nat.le_of_ble_eq_true rfl) rfl 78 rfl ?_
        intro x7
        refine g_join 86 (fun a8 => []) (fun a8 => [.int a8]) (fun a8 => M) ?_ ?_
        · intro a8
          exact p_iretX rfl dX9_groupTold_86
        · intro k9 hk9
          refine g_if_eq 85 (by decide) 81 rfl dX9_groupTold_78 ?_ ?_
          · refine g_iconst 0 86 rfl dX9_groupTold_85 (by decide) ?_
            refine g_sub [] [] rfl ?_
            exact hk9 0
          · refine g_iconst 1 82 rfl dX9_groupTold_81 (by decide) ?_
            refine g_goto 86 (by decide) dX9_groupTold_82 ?_
            refine g_sub [] [] rfl ?_
            exact hk9 1
      · intro h9_2
        refine g_case ?_ ?_
        · intro h9_3
          refine g_tin (off := 78) 87 (by rw [h9_3]; decide) (by rw [h9_3]; decide) (by rw [h9_3]; rfl) (by decide) dX9_groupTold_9 ?_
          refine g_aload 0 rfl 89 rfl dX9_groupTold_87 ?_
          refine g_iload_n 3 rfl rfl 90 rfl dX9_groupTold_89 ?_
          refine p_cVI o1 [.int p1] [] (c_X2_conflictSet l hO hX ho1 M p1) dX9_groupTold_90 uv_X9_173 rfl yk_X2_conflictSet ⟨by decide, by decide⟩ (lx_J hX ho1).1 (lx_J hX ho1).2 rfl (Nat.le_of_ble_eq_true rfl) rfl 93 rfl ?_
          intro x6
          exact p_iretX rfl dX9_groupTold_93
        · intro h9_3
          refine g_case ?_ ?_
          · intro h9_4
            refine g_tin (off := 85) 94 (by rw [h9_4]; decide) (by rw [h9_4]; decide) (by rw [h9_4]; rfl) (by decide) dX9_groupTold_9 ?_
            refine g_aload 0 rfl 96 rfl dX9_groupTold_94 ?_
            refine w_getR (lx_J hX ho1) rfl in_X2 12 (by decide) wf_X9_176 (o1 + 4) rfl 99 rfl dX9_groupTold_96 ?_
            refine g_iload_n 3 rfl rfl 100 rfl dX9_groupTold_99 ?_
            refine w_iald (lx_J4 hX ho1) 101 rfl dX9_groupTold_100 ?_
            exact p_iretX rfl dX9_groupTold_101
          · intro h9_4
            refine g_case ?_ ?_
            · intro h9_5
              refine g_tin (off := 93) 102 (by rw [h9_5]; decide) (by rw [h9_5]; decide) (by rw [h9_5]; rfl) (by decide) dX9_groupTold_9 ?_
              refine g_aload 0 rfl 104 rfl dX9_groupTold_102 ?_
              refine w_getR (lx_J hX ho1) rfl in_X2 13 (by decide) wf_X9_179 (o1 + 5) rfl 107 rfl dX9_groupTold_104 ?_
              refine g_iload_n 3 rfl rfl 108 rfl dX9_groupTold_107 ?_
              refine w_iald (lx_J5 hX ho1) 109 rfl dX9_groupTold_108 ?_
              exact p_iretX rfl dX9_groupTold_109
            · intro h9_5
              refine g_case ?_ ?_
              · intro h9_6
                refine g_tin (off := 101) 110 (by rw [h9_6]; decide) (by rw [h9_6]; decide) (by rw [h9_6]; rfl) (by decide) dX9_groupTold_9 ?_
                refine g_aload 0 rfl 112 rfl dX9_groupTold_110 ?_
                refine g_iload_n 3 rfl rfl 113 rfl dX9_groupTold_112 ?_
                refine p_cVI o1 [.int p1] [] (c_X2_isGiven l hO hX ho1 M p1) dX9_groupTold_113 uv_X9_182 rfl yk_X2_isGiven ⟨by decide, by decide⟩ (lx_J hX ho1).1 (lx_J hX ho1).2 rfl (Nat.le_of_ble_eq_true rfl) rfl 116 rfl ?_
                intro x3
                refine g_join 124 (fun a4 => []) (fun a4 => [.int a4]) (fun a4 => M) ?_ ?_
                · intro a4
                  exact p_iretX rfl dX9_groupTold_124
                · intro k5 hk5
                  refine g_if_eq 123 (by decide) 119 rfl dX9_groupTold_116 ?_ ?_
                  · refine g_iconst 0 124 rfl dX9_groupTold_123 (by decide) ?_
                    refine g_sub [] [] rfl ?_
                    exact hk5 0
                  · refine g_iconst 1 120 rfl dX9_groupTold_119 (by decide) ?_
                    refine g_goto 124 (by decide) dX9_groupTold_120 ?_
                    refine g_sub [] [] rfl ?_
                    exact hk5 1
              · intro h9_6
                refine g_case ?_ ?_
                · intro h9_7
                  refine g_tin (off := 116) 125 (by rw [h9_7]; decide) (by rw [h9_7]; decide) (by rw [h9_7]; rfl) (by decide) dX9_groupTold_9 ?_
                  refine g_aload 0 rfl 127 rfl dX9_groupTold_125 ?_
                  refine g_iload_n 3 rfl rfl 128 rfl dX9_groupTold_127 ?_
                  refine p_cVI o1 [.int p1] [] (c_X2_headCount l hO hX ho1 M p1) dX9_groupTold_128 uv_X9_185 rfl yk_X2_headCount ⟨by decide, by decide⟩ (lx_J hX ho1).1 (lx_J hX ho1).2 rfl (Nat.le_of_ble_eq_true rfl) rfl 131 rfl ?_
                  intro x2
                  exact p_iretX rfl dX9_groupTold_131
                · intro h9_7
                  refine g_tout 132 (ts_out (fun z h1 h2 e => by have q0 := ts_ne (z := 0) h9_0 (by decide); have q1 := ts_ne (z := 1) h9_1 (by decide); have q2 := ts_ne (z := 2) h9_2 (by decide); have q3 := ts_ne (z := 3) h9_3 (by decide); have q4 := ts_ne (z := 4) h9_4 (by decide); have q5 := ts_ne (z := 5) h9_5 (by decide); have q6 := ts_ne (z := 6) h9_6 (by decide); have q7 := ts_ne (z := 7) h9_7 (by decide); omega)) (by decide) dX9_groupTold_9 ?_
                  exact g_throw hl0 hT 1 148 150 152 "what is not 0 to 7" xNm xf_1 xNm_ok wj_X9_148 wxi_1 (List.mem_of_getElem? (i := 6) rfl) xa_1 xg_1 dX9_groupTold_132 dX9_groupTold_135 dX9_groupTold_136 dX9_groupTold_138 dX9_groupTold_141 (by decide) (Nat.le_of_ble_eq_true rfl) rfl
def fX9_conflict (M : Mem) (p0 : Int32) (p1 : Int32) (p2 : Int32) (p3 : Int32) (p4 : Int32) : Option ((Nat ⊕ Int32) × Mem) := clpm M (fX9_foundWith M p0 p1) (fun o1 => grd (isJb o1) (clp (fX2_hasGroup M o1 p2) (fun x2 => clpm M (fX9_need M x2 1) (fun u3 => jn (fun (a4 : Int32) => clpm M (fX9_need M a4 2) (fun u6 => clp (fX2_isChangePlanned M o1) (fun x7 => jn (fun (a8 : Int32) => clpm M (fX9_need M a8 3) (fun u10 => clp (fX2_reasonAgainstConflict M o1 p1 p2 p3 p4 (M 1 0)) (fun x11 => cl (fX9_faultOfReason M x11) (fun x12 M13 => clpm M13 (fX9_raise M13 x12) (fun u14 => cl (fX1_push M13 1) (fun u15 M16 => cl (fX2_setClearances M16 o1 p1 p2 p3 p4) (fun u17 M18 => clp (fX2_conflictCount M18 o1) (fun x19 => some (.inr x19, M18))))))))) (fun k9 => if x7 = 0 then (k9 1) else (k9 0))))) (fun k5 => jn (fun (a20 : Unit) => k5 0) (fun k21 => if p1 = p2 then (k21 ()) else (clp (fX9_isClearance M p3) (fun x22 => if x22 = 0 then (k21 ()) else (clp (fX9_isClearance M p4) (fun x23 => if x23 = 0 then (k21 ()) else (k5 1)))))))))))
set_option maxRecDepth 100000 in
set_option maxHeartbeats 4000000 in
theorem c_X9_conflict {Ω : Wd} (l : Launch) (hO : OkW Ω) (hX : LX Ω) (hl0 : l.stackTraces = false) (hT : ThrOk Ω)  (M : Mem) (p0 : Int32) (p1 : Int32) (p2 : Int32) (p3 : Int32) (p4 : Int32) : ∀ r, fX9_conflict M p0 p1 p2 p3 p4 = some r → Ct l yX9_conflict (.code yX9_conflict cX9_conflict 7 (some .int)) 9 184 Ω [.ref (wA Ω 0), .int p0, .int p1, .int p2, .int p3, .int p4] M (cvIX r) := by
  refine ofG [(0, .ref (wA Ω 0)), (1, .int p0), (2, .int p1), (3, .int p2), (4, .int p3), (5, .int p4)] hO (by decide) rfl (Nat.le_of_ble_eq_true rfl) rfl ?_
  intro p e s m args below meth c
  unfold fX9_conflict
  refine g_aload_n 0 rfl rfl 1 rfl dX9_conflict_0 ?_
  refine g_iload_n 1 rfl rfl 2 rfl dX9_conflict_1 ?_
  refine g_iload_n 2 rfl rfl 3 rfl dX9_conflict_2 ?_
  refine q_xVR 0 [.int p0, .int p1] [] (c_X9_foundWith l hO hX hl0 hT M p0 p1) (fun _ _ => rfl) dX9_conflict_3 uv_X9_159 rfl yk_X9_foundWith ⟨by decide, by decide⟩ (lx_X hX).1 (lx_X hX).2 rfl (Nat.le_of_ble_eq_true rfl) rfl 6 rfl ?_
  intro o1
  refine g_grd (fun ho10 => ?_)
  have ho1 := isJb_of ho10
  refine g_astoreA [(6, .ref (wA Ω o1)), (0, .ref (wA Ω 0)), (1, .int p0), (2, .int p1), (3, .int p2), (4, .int p3), (5, .int p4)] 8 rfl dX9_conflict_6 (by decide) rfl ?_
  refine g_aload 0 rfl 10 rfl dX9_conflict_8 ?_
  refine g_iload_n 4 rfl rfl 11 rfl dX9_conflict_10 ?_
  refine p_cVI o1 [.int p2] [] (c_X2_hasGroup l hO hX ho1 M p2) dX9_conflict_11 uv_X9_188 rfl yk_X2_hasGroup ⟨by decide, by decide⟩ (lx_J hX ho1).1 (lx_J hX ho1).2 rfl (Nat.le_of_ble_eq_true rfl) rfl 14 rfl ?_
  intro x2
  refine g_iconst 1 15 rfl dX9_conflict_14 (by decide) ?_
  refine q_xSV [.int x2, .int 1] [] (c_X9_need l hO hl0 hT M x2 1) (fun _ _ => rfl) dX9_conflict_15 us_X9_68 rfl yk_X9_need ⟨by decide, by decide⟩ (Nat.le_of_ble_eq_true rfl) rfl 18 rfl ?_
  intro u3
  refine g_iload_n 3 rfl rfl 19 rfl dX9_conflict_18 ?_
  refine g_iload_n 4 rfl rfl 20 rfl dX9_conflict_19 ?_
  refine g_join 44 (fun a4 => [(0, .ref (wA Ω 0)), (2, .int p1), (3, .int p2), (4, .int p3), (5, .int p4), (6, .ref (wA Ω o1))]) (fun a4 => [.int a4]) (fun a4 => M) ?_ ?_
  · intro a4
    refine g_iconst 2 45 rfl dX9_conflict_44 (by decide) ?_
    refine q_xSV [.int a4, .int 2] [] (c_X9_need l hO hl0 hT M a4 2) (fun _ _ => rfl) dX9_conflict_45 us_X9_68 rfl yk_X9_need ⟨by decide, by decide⟩ (Nat.le_of_ble_eq_true rfl) rfl 48 rfl ?_
    intro u6
    refine g_aload 5 rfl 50 rfl dX9_conflict_48 ?_
    refine p_cVI o1 [] [] (c_X2_isChangePlanned l hO hX ho1 M) dX9_conflict_50 uv_X9_194 rfl yk_X2_isChangePlanned ⟨by decide, by decide⟩ (lx_J hX ho1).1 (lx_J hX ho1).2 rfl (Nat.le_of_ble_eq_true rfl) rfl 53 rfl ?_
    intro x7
    refine g_join 61 (fun a8 => [(0, .ref (wA Ω 0)), (2, .int p1), (3, .int p2), (4, .int p3), (5, .int p4), (6, .ref (wA Ω o1))]) (fun a8 => [.int a8]) (fun a8 => M) ?_ ?_
    · intro a8
      refine g_iconst 3 62 rfl dX9_conflict_61 (by decide) ?_
      refine q_xSV [.int a8, .int 3] [] (c_X9_need l hO hl0 hT M a8 3) (fun _ _ => rfl) dX9_conflict_62 us_X9_68 rfl yk_X9_need ⟨by decide, by decide⟩ (Nat.le_of_ble_eq_true rfl) rfl 65 rfl ?_
      intro u10
      refine g_aload_n 0 rfl rfl 66 rfl dX9_conflict_65 ?_
      refine g_aload 5 rfl 68 rfl dX9_conflict_66 ?_
      refine g_iload_n 1 rfl rfl 69 rfl dX9_conflict_68 ?_
      refine g_iload_n 2 rfl rfl 70 rfl dX9_conflict_69 ?_
      refine g_iload 3 rfl 72 rfl dX9_conflict_70 ?_
      refine g_iload 4 rfl 74 rfl dX9_conflict_72 ?_
      refine g_aload_n 0 rfl rfl 75 rfl dX9_conflict_74 ?_
      refine w_getR (lx_X hX) rfl in_X9 0 (by decide) wf_X9_12 1 rfl 78 rfl dX9_conflict_75 ?_
      refine w_get (lx_S hX isS_1) rfl in_X6 0 (by decide) wf_X9_80 rfl 81 rfl dX9_conflict_78 ?_
      refine p_cVI o1 [.int p1, .int p2, .int p3, .int p4, .int (M 1 0)] [.ref (wA Ω 0)] (c_X2_reasonAgainstConflict l hO hX ho1 M p1 p2 p3 p4 (M 1 0)) dX9_conflict_81 uv_X9_198 rfl yk_X2_reasonAgainstConflict ⟨by decide, by decide⟩ (lx_J hX ho1).1 (lx_J hX ho1).2 rfl (Nat.le_of_ble_eq_true rfl) rfl 84 rfl ?_
      intro x11
      refine g_cVI 0 [.int x11] [] (c_X9_faultOfReason l hO hX M x11) dX9_conflict_84 uv_X9_202 rfl yk_X9_faultOfReason ⟨by decide, by decide⟩ (lx_X hX).1 (lx_X hX).2 rfl (Nat.le_of_ble_eq_true rfl) rfl 87 rfl ?_
      intro x12 M13
      refine q_xSV [.int x12] [] (c_X9_raise l hO hl0 hT M13 x12) (fun _ _ => rfl) dX9_conflict_87 us_X9_101 rfl yk_X9_raise ⟨by decide, by decide⟩ (Nat.le_of_ble_eq_true rfl) rfl 90 rfl ?_
      intro u14
      refine g_aload_n 0 rfl rfl 91 rfl dX9_conflict_90 ?_
      refine w_getR (lx_X hX) rfl in_X9 3 (by decide) wf_X9_25 463 rfl 94 rfl dX9_conflict_91 ?_
      refine g_aload_n 0 rfl rfl 95 rfl dX9_conflict_94 ?_
      refine w_getR (lx_X hX) rfl in_X9 0 (by decide) wf_X9_12 1 rfl 98 rfl dX9_conflict_95 ?_
      refine g_cVV 463 [.ref (wA Ω 1)] [] (c_X1_push l hO hX isS_1 M13) dX9_conflict_98 uv_X9_76 rfl yk_X1_push ⟨by decide, by decide⟩ (lx_H hX).1 (lx_H hX).2 rfl (Nat.le_of_ble_eq_true rfl) rfl 101 rfl ?_
      intro u15 M16
      refine g_aload 5 rfl 103 rfl dX9_conflict_101 ?_
      refine g_iload_n 1 rfl rfl 104 rfl dX9_conflict_103 ?_
      refine g_iload_n 2 rfl rfl 105 rfl dX9_conflict_104 ?_
      refine g_iload 3 rfl 107 rfl dX9_conflict_105 ?_
      refine g_iload 4 rfl 109 rfl dX9_conflict_107 ?_
      refine g_cVV o1 [.int p1, .int p2, .int p3, .int p4] [] (c_X2_setClearances l hO hX ho1 M16 p1 p2 p3 p4) dX9_conflict_109 uv_X9_205 rfl yk_X2_setClearances ⟨by decide, by decide⟩ (lx_J hX ho1).1 (lx_J hX ho1).2 rfl (Nat.le_of_ble_eq_true rfl) rfl 112 rfl ?_
      intro u17 M18
      refine g_aload 5 rfl 114 rfl dX9_conflict_112 ?_
      refine p_cVI o1 [] [] (c_X2_conflictCount l hO hX ho1 M18) dX9_conflict_114 uv_X9_142 rfl yk_X2_conflictCount ⟨by decide, by decide⟩ (lx_J hX ho1).1 (lx_J hX ho1).2 rfl (Nat.le_of_ble_eq_true rfl) rfl 117 rfl ?_
      intro x19
      exact g_iretX rfl dX9_conflict_117
    · intro k9 hk9
      refine g_if_ne 60 (by decide) 56 rfl dX9_conflict_53 ?_ ?_
      · refine g_iconst 1 57 rfl dX9_conflict_56 (by decide) ?_
        refine g_goto 61 (by decide) dX9_conflict_57 ?_
        exact hk9 1
      · refine g_iconst 0 61 rfl dX9_conflict_60 (by decide) ?_
        exact hk9 0
  · intro k5 hk5
    refine g_join 43 (fun a20 => [(0, .ref (wA Ω 0)), (2, .int p1), (3, .int p2), (4, .int p3), (5, .int p4), (6, .ref (wA Ω o1))]) (fun a20 => []) (fun a20 => M) ?_ ?_
    · intro a20
      refine g_iconst 0 44 rfl dX9_conflict_43 (by decide) ?_
      exact hk5 0
    · intro k21 hk21
      refine g_icmp_eq 43 (by decide) 23 rfl dX9_conflict_20 ?_ ?_
      · refine g_sub [(0, .ref (wA Ω 0)), (2, .int p1), (3, .int p2), (4, .int p3), (5, .int p4), (6, .ref (wA Ω o1))] [1, 3, 4, 5, 6, 0] rfl ?_
        exact hk21 ()
      · refine g_iload 5 rfl 25 rfl dX9_conflict_23 ?_
        refine p_cSI [.int p3] [] (c_X9_isClearance l hO M p3) dX9_conflict_25 us_X9_191 rfl yk_X9_isClearance ⟨by decide, by decide⟩ (Nat.le_of_ble_eq_true rfl) rfl 28 rfl ?_
        intro x22
        refine g_if_eq 43 (by decide) 31 rfl dX9_conflict_28 ?_ ?_
        · refine g_sub [(0, .ref (wA Ω 0)), (2, .int p1), (3, .int p2), (4, .int p3), (5, .int p4), (6, .ref (wA Ω o1))] [1, 3, 4, 5, 6, 0] rfl ?_
          exact hk21 ()
        · refine g_iload 6 rfl 33 rfl dX9_conflict_31 ?_
          refine p_cSI [.int p4] [] (c_X9_isClearance l hO M p4) dX9_conflict_33 us_X9_191 rfl yk_X9_isClearance ⟨by decide, by decide⟩ (Nat.le_of_ble_eq_true rfl) rfl 36 rfl ?_
          intro x23
          refine g_if_eq 43 (by decide) 39 rfl dX9_conflict_36 ?_ ?_
          · refine g_sub [(0, .ref (wA Ω 0)), (2, .int p1), (3, .int p2), (4, .int p3), (5, .int p4), (6, .ref (wA Ω o1))] [1, 3, 4, 5, 6, 0] rfl ?_
            exact hk21 ()
          · refine g_iconst 1 40 rfl dX9_conflict_39 (by decide) ?_
            refine g_goto 44 (by decide) dX9_conflict_40 ?_
            refine g_sub [(0, .ref (wA Ω 0)), (2, .int p1), (3, .int p2), (4, .int p3), (5, .int p4), (6, .ref (wA Ω o1))] [1, 3, 4, 5, 6, 0] rfl ?_
            exact hk5 1
def fX9_peace (M : Mem) (p0 : Int32) (p1 : Int32) (p2 : Int32) : Option ((Nat ⊕ Int32) × Mem) := clpm M (fX9_foundWith M p0 p1) (fun o1 => grd (isJb o1) (clp (fX2_hasGroup M o1 p2) (fun x2 => clpm M (fX9_need M x2 1) (fun u3 => clp (fX2_areInConflict M o1 p1 p2) (fun x4 => clpm M (fX9_need M x4 5) (fun u5 => cl (fX1_push M 1) (fun u6 M7 => clp (fX2_clearanceFrom M7 o1 p1 p2) (fun x8 => clp (fX2_clearanceFrom M7 o1 p2 p1) (fun x9 => bnd ((100 * x8) + x9) (fun x10 => cl (fX2_setClearances M7 o1 p1 p2 (-1) (-1)) (fun u11 M12 => some (.inr x10, M12))))))))))))
set_option maxRecDepth 100000 in
set_option maxHeartbeats 4000000 in
theorem c_X9_peace {Ω : Wd} (l : Launch) (hO : OkW Ω) (hX : LX Ω) (hl0 : l.stackTraces = false) (hT : ThrOk Ω)  (M : Mem) (p0 : Int32) (p1 : Int32) (p2 : Int32) : ∀ r, fX9_peace M p0 p1 p2 = some r → Ct l yX9_peace (.code yX9_peace cX9_peace 6 (some .int)) 9 184 Ω [.ref (wA Ω 0), .int p0, .int p1, .int p2] M (cvIX r) := by
  refine ofG [(0, .ref (wA Ω 0)), (1, .int p0), (2, .int p1), (3, .int p2)] hO (by decide) rfl (Nat.le_of_ble_eq_true rfl) rfl ?_
  intro p e s m args below meth c
  unfold fX9_peace
  refine g_aload_n 0 rfl rfl 1 rfl dX9_peace_0 ?_
  refine g_iload_n 1 rfl rfl 2 rfl dX9_peace_1 ?_
  refine g_iload_n 2 rfl rfl 3 rfl dX9_peace_2 ?_
  refine q_xVR 0 [.int p0, .int p1] [] (c_X9_foundWith l hO hX hl0 hT M p0 p1) (fun _ _ => rfl) dX9_peace_3 uv_X9_159 rfl yk_X9_foundWith ⟨by decide, by decide⟩ (lx_X hX).1 (lx_X hX).2 rfl (Nat.le_of_ble_eq_true rfl) rfl 6 rfl ?_
  intro o1
  refine g_grd (fun ho10 => ?_)
  have ho1 := isJb_of ho10
  refine g_astoreA [(4, .ref (wA Ω o1)), (0, .ref (wA Ω 0)), (1, .int p0), (2, .int p1), (3, .int p2)] 8 rfl dX9_peace_6 (by decide) rfl ?_
  refine g_aload 0 rfl 10 rfl dX9_peace_8 ?_
  refine g_iload_n 4 rfl rfl 11 rfl dX9_peace_10 ?_
  refine p_cVI o1 [.int p2] [] (c_X2_hasGroup l hO hX ho1 M p2) dX9_peace_11 uv_X9_188 rfl yk_X2_hasGroup ⟨by decide, by decide⟩ (lx_J hX ho1).1 (lx_J hX ho1).2 rfl (Nat.le_of_ble_eq_true rfl) rfl 14 rfl ?_
  intro x2
  refine g_iconst 1 15 rfl dX9_peace_14 (by decide) ?_
  refine q_xSV [.int x2, .int 1] [] (c_X9_need l hO hl0 hT M x2 1) (fun _ _ => rfl) dX9_peace_15 us_X9_68 rfl yk_X9_need ⟨by decide, by decide⟩ (Nat.le_of_ble_eq_true rfl) rfl 18 rfl ?_
  intro u3
  refine g_aload 0 rfl 20 rfl dX9_peace_18 ?_
  refine g_iload_n 3 rfl rfl 21 rfl dX9_peace_20 ?_
  refine g_iload_n 4 rfl rfl 22 rfl dX9_peace_21 ?_
  refine p_cVI o1 [.int p1, .int p2] [] (c_X2_areInConflict l hO hX ho1 M p1 p2) dX9_peace_22 uv_X9_209 rfl yk_X2_areInConflict ⟨by decide, by decide⟩ (lx_J hX ho1).1 (lx_J hX ho1).2 rfl (Nat.le_of_ble_eq_true rfl) rfl 25 rfl ?_
  intro x4
  refine g_iconst 5 26 rfl dX9_peace_25 (by decide) ?_
  refine q_xSV [.int x4, .int 5] [] (c_X9_need l hO hl0 hT M x4 5) (fun _ _ => rfl) dX9_peace_26 us_X9_68 rfl yk_X9_need ⟨by decide, by decide⟩ (Nat.le_of_ble_eq_true rfl) rfl 29 rfl ?_
  intro u5
  refine g_aload_n 1 rfl rfl 30 rfl dX9_peace_29 ?_
  refine w_getR (lx_X hX) rfl in_X9 3 (by decide) wf_X9_25 463 rfl 33 rfl dX9_peace_30 ?_
  refine g_aload_n 1 rfl rfl 34 rfl dX9_peace_33 ?_
  refine w_getR (lx_X hX) rfl in_X9 0 (by decide) wf_X9_12 1 rfl 37 rfl dX9_peace_34 ?_
  refine g_cVV 463 [.ref (wA Ω 1)] [] (c_X1_push l hO hX isS_1 M) dX9_peace_37 uv_X9_76 rfl yk_X1_push ⟨by decide, by decide⟩ (lx_H hX).1 (lx_H hX).2 rfl (Nat.le_of_ble_eq_true rfl) rfl 40 rfl ?_
  intro u6 M7
  refine g_bipush 100 42 rfl dX9_peace_40 (by decide) ?_
  refine g_aload 0 rfl 44 rfl dX9_peace_42 ?_
  refine g_iload_n 3 rfl rfl 45 rfl dX9_peace_44 ?_
  refine g_iload_n 4 rfl rfl 46 rfl dX9_peace_45 ?_
  refine p_cVI o1 [.int p1, .int p2] [.int 100] (c_X2_clearanceFrom l hO hX ho1 M7 p1 p2) dX9_peace_46 uv_X9_213 rfl yk_X2_clearanceFrom ⟨by decide, by decide⟩ (lx_J hX ho1).1 (lx_J hX ho1).2 rfl (Nat.le_of_ble_eq_true rfl) rfl 49 rfl ?_
  intro x8
  refine g_imul 50 rfl dX9_peace_49 ?_
  refine g_aload 0 rfl 52 rfl dX9_peace_50 ?_
  refine g_iload_n 4 rfl rfl 53 rfl dX9_peace_52 ?_
  refine g_iload_n 3 rfl rfl 54 rfl dX9_peace_53 ?_
  refine p_cVI o1 [.int p2, .int p1] [.int (100 * x8)] (c_X2_clearanceFrom l hO hX ho1 M7 p2 p1) dX9_peace_54 uv_X9_213 rfl yk_X2_clearanceFrom ⟨by decide, by decide⟩ (lx_J hX ho1).1 (lx_J hX ho1).2 rfl (Nat.le_of_ble_eq_true rfl) rfl 57 rfl ?_
  intro x9
  refine g_iadd 58 rfl dX9_peace_57 ?_
  refine g_istore (fun x10 => [(5, .int x10), (4, .ref (wA Ω o1)), (0, .ref (wA Ω 0)), (1, .int p0), (2, .int p1), (3, .int p2)]) 60 rfl dX9_peace_58 (by decide) (fun _ => rfl) ?_
  intro x10
  refine g_aload 1 rfl 62 rfl dX9_peace_60 ?_
  refine g_iload_n 4 rfl rfl 63 rfl dX9_peace_62 ?_
  refine g_iload_n 5 rfl rfl 64 rfl dX9_peace_63 ?_
  refine g_iconst (-1) 65 rfl dX9_peace_64 (by decide) ?_
  refine g_iconst (-1) 66 rfl dX9_peace_65 (by decide) ?_
  refine g_cVV o1 [.int p1, .int p2, .int (-1), .int (-1)] [] (c_X2_setClearances l hO hX ho1 M7 p1 p2 (-1) (-1)) dX9_peace_66 uv_X9_205 rfl yk_X2_setClearances ⟨by decide, by decide⟩ (lx_J hX ho1).1 (lx_J hX ho1).2 rfl (Nat.le_of_ble_eq_true rfl) rfl 69 rfl ?_
  intro u11 M12
  refine g_iload 0 rfl 71 rfl dX9_peace_69 ?_
  exact g_iretX rfl dX9_peace_71
def fX9_clearance (M : Mem) (p0 : Int32) (p1 : Int32) (p2 : Int32) : Option (Nat ⊕ Int32) := clpx (fX9_foundWith M p0 p1) (fun o1 => grd (isJb o1) (clp (fX2_hasGroup M o1 p2) (fun x2 => clpx (fX9_need M x2 1) (fun u3 => clp (fX2_clearanceFrom M o1 p1 p2) (fun x4 => some (.inr x4))))))
set_option maxRecDepth 100000 in
set_option maxHeartbeats 4000000 in
theorem c_X9_clearance {Ω : Wd} (l : Launch) (hO : OkW Ω) (hX : LX Ω) (hl0 : l.stackTraces = false) (hT : ThrOk Ω)  (M : Mem) (p0 : Int32) (p1 : Int32) (p2 : Int32) : ∀ r, fX9_clearance M p0 p1 p2 = some r → Ct l yX9_clearance (.code yX9_clearance cX9_clearance 5 (some .int)) 9 184 Ω [.ref (wA Ω 0), .int p0, .int p1, .int p2] M ((cpIX M) r) := by
  refine ofG [(0, .ref (wA Ω 0)), (1, .int p0), (2, .int p1), (3, .int p2)] hO (by decide) rfl (Nat.le_of_ble_eq_true rfl) rfl ?_
  intro p e s m args below meth c
  unfold fX9_clearance
  refine g_aload_n 0 rfl rfl 1 rfl dX9_clearance_0 ?_
  refine g_iload_n 1 rfl rfl 2 rfl dX9_clearance_1 ?_
  refine g_iload_n 2 rfl rfl 3 rfl dX9_clearance_2 ?_
  refine p_xVR 0 [.int p0, .int p1] [] (c_X9_foundWith l hO hX hl0 hT M p0 p1) (fun _ => rfl) dX9_clearance_3 uv_X9_159 rfl yk_X9_foundWith ⟨by decide, by decide⟩ (lx_X hX).1 (lx_X hX).2 rfl (Nat.le_of_ble_eq_true rfl) rfl 6 rfl ?_
  intro o1
  refine g_grd (fun ho10 => ?_)
  have ho1 := isJb_of ho10
  refine g_astoreA [(4, .ref (wA Ω o1)), (0, .ref (wA Ω 0)), (1, .int p0), (2, .int p1), (3, .int p2)] 8 rfl dX9_clearance_6 (by decide) rfl ?_
  refine g_aload 0 rfl 10 rfl dX9_clearance_8 ?_
  refine g_iload_n 4 rfl rfl 11 rfl dX9_clearance_10 ?_
  refine p_cVI o1 [.int p2] [] (c_X2_hasGroup l hO hX ho1 M p2) dX9_clearance_11 uv_X9_188 rfl yk_X2_hasGroup ⟨by decide, by decide⟩ (lx_J hX ho1).1 (lx_J hX ho1).2 rfl (Nat.le_of_ble_eq_true rfl) rfl 14 rfl ?_
  intro x2
  refine g_iconst 1 15 rfl dX9_clearance_14 (by decide) ?_
  refine p_xSV [.int x2, .int 1] [] (c_X9_need l hO hl0 hT M x2 1) (fun _ => rfl) dX9_clearance_15 us_X9_68 rfl yk_X9_need ⟨by decide, by decide⟩ (Nat.le_of_ble_eq_true rfl) rfl 18 rfl ?_
  intro u3
  refine g_aload 0 rfl 20 rfl dX9_clearance_18 ?_
  refine g_iload_n 3 rfl rfl 21 rfl dX9_clearance_20 ?_
  refine g_iload_n 4 rfl rfl 22 rfl dX9_clearance_21 ?_
  refine p_cVI o1 [.int p1, .int p2] [] (c_X2_clearanceFrom l hO hX ho1 M p1 p2) dX9_clearance_22 uv_X9_213 rfl yk_X2_clearanceFrom ⟨by decide, by decide⟩ (lx_J hX ho1).1 (lx_J hX ho1).2 rfl (Nat.le_of_ble_eq_true rfl) rfl 25 rfl ?_
  intro x4
  exact p_iretX rfl dX9_clearance_25
def fX9_green (M : Mem) (p0 : Int32) (p1 : Int32) (p2 : Int32) (p3 : Int32) (p4 : Int32) : Option ((Nat ⊕ Int32) × Mem) := cl (fX9_greenFault M p0 p1 p2 p3 p4) (fun x1 M2 => clpm M2 (fX9_raise M2 x1) (fun u3 => cl (fX1_push M2 1) (fun u4 M5 => clx (fX9_giveGreen M5 p0 p1 p2 p3 p4) (fun x6 M7 => some (.inr x6, M7)))))
set_option maxRecDepth 100000 in
set_option maxHeartbeats 4000000 in
theorem c_X9_green {Ω : Wd} (l : Launch) (hO : OkW Ω) (hX : LX Ω) (hl0 : l.stackTraces = false) (hT : ThrOk Ω)  (M : Mem) (p0 : Int32) (p1 : Int32) (p2 : Int32) (p3 : Int32) (p4 : Int32) : ∀ r, fX9_green M p0 p1 p2 p3 p4 = some r → Ct l yX9_green (.code yX9_green cX9_green 6 (some .int)) 8 168 Ω [.ref (wA Ω 0), .int p0, .int p1, .int p2, .int p3, .int p4] M (cvIX r) := by
  refine ofG [(0, .ref (wA Ω 0)), (1, .int p0), (2, .int p1), (3, .int p2), (4, .int p3), (5, .int p4)] hO (by decide) rfl (Nat.le_of_ble_eq_true rfl) rfl ?_
  intro p e s m args below meth c
  unfold fX9_green
  refine g_aload_n 0 rfl rfl 1 rfl dX9_green_0 ?_
  refine g_iload_n 1 rfl rfl 2 rfl dX9_green_1 ?_
  refine g_iload_n 2 rfl rfl 3 rfl dX9_green_2 ?_
  refine g_iload_n 3 rfl rfl 4 rfl dX9_green_3 ?_
  refine g_iload 4 rfl 6 rfl dX9_green_4 ?_
  refine g_iload 5 rfl 8 rfl dX9_green_6 ?_
  refine g_cVI 0 [.int p0, .int p1, .int p2, .int p3, .int p4] [] (c_X9_greenFault l hO hX M p0 p1 p2 p3 p4) dX9_green_8 uv_X9_216 rfl yk_X9_greenFault ⟨by decide, by decide⟩ (lx_X hX).1 (lx_X hX).2 rfl (Nat.le_of_ble_eq_true rfl) rfl 11 rfl ?_
  intro x1 M2
  refine q_xSV [.int x1] [] (c_X9_raise l hO hl0 hT M2 x1) (fun _ _ => rfl) dX9_green_11 us_X9_101 rfl yk_X9_raise ⟨by decide, by decide⟩ (Nat.le_of_ble_eq_true rfl) rfl 14 rfl ?_
  intro u3
  refine g_aload_n 0 rfl rfl 15 rfl dX9_green_14 ?_
  refine w_getR (lx_X hX) rfl in_X9 3 (by decide) wf_X9_25 463 rfl 18 rfl dX9_green_15 ?_
  refine g_aload_n 0 rfl rfl 19 rfl dX9_green_18 ?_
  refine w_getR (lx_X hX) rfl in_X9 0 (by decide) wf_X9_12 1 rfl 22 rfl dX9_green_19 ?_
  refine g_cVV 463 [.ref (wA Ω 1)] [] (c_X1_push l hO hX isS_1 M2) dX9_green_22 uv_X9_76 rfl yk_X1_push ⟨by decide, by decide⟩ (lx_H hX).1 (lx_H hX).2 rfl (Nat.le_of_ble_eq_true rfl) rfl 25 rfl ?_
  intro u4 M5
  refine g_aload_n 0 rfl rfl 26 rfl dX9_green_25 ?_
  refine g_iload_n 1 rfl rfl 27 rfl dX9_green_26 ?_
  refine g_iload_n 2 rfl rfl 28 rfl dX9_green_27 ?_
  refine g_iload_n 3 rfl rfl 29 rfl dX9_green_28 ?_
  refine g_iload 4 rfl 31 rfl dX9_green_29 ?_
  refine g_iload 5 rfl 33 rfl dX9_green_31 ?_
  refine g_xVI 0 [.int p0, .int p1, .int p2, .int p3, .int p4] [] (c_X9_giveGreen l hO hX hl0 hT M5 p0 p1 p2 p3 p4) (fun _ _ => rfl) dX9_green_33 uv_X9_219 rfl yk_X9_giveGreen ⟨by decide, by decide⟩ (lx_X hX).1 (lx_X hX).2 rfl (Nat.le_of_ble_eq_true rfl) rfl 36 rfl ?_
  intro x6 M7
  exact g_iretX rfl dX9_green_36
def fX9_hinders (M : Mem) (p0 : Int32) (p1 : Int32) (p2 : Int32) (p3 : Int32) (p4 : Int32) : Option (Nat ⊕ Int32) := clpx (fX9_foundWith M p0 p2) (fun o1 => grd (isJb o1) (clp (fX9_isPlan M p1) (fun x2 => clpx (fX9_need M x2 1) (fun u3 => clp (fX9_isGreen M p3 p4) (fun x4 => clpx (fX9_need M x4 2) (fun u5 => clp (fX2_reasonAgainstGreen M o1 p1 p2 p3 p4 (M 1 0)) (fun x6 => some (.inr x6))))))))
set_option maxRecDepth 100000 in
set_option maxHeartbeats 4000000 in
theorem c_X9_hinders {Ω : Wd} (l : Launch) (hO : OkW Ω) (hX : LX Ω) (hl0 : l.stackTraces = false) (hT : ThrOk Ω)  (M : Mem) (p0 : Int32) (p1 : Int32) (p2 : Int32) (p3 : Int32) (p4 : Int32) : ∀ r, fX9_hinders M p0 p1 p2 p3 p4 = some r → Ct l yX9_hinders (.code yX9_hinders cX9_hinders 7 (some .int)) 9 184 Ω [.ref (wA Ω 0), .int p0, .int p1, .int p2, .int p3, .int p4] M ((cpIX M) r) := by
  refine ofG [(0, .ref (wA Ω 0)), (1, .int p0), (2, .int p1), (3, .int p2), (4, .int p3), (5, .int p4)] hO (by decide) rfl (Nat.le_of_ble_eq_true rfl) rfl ?_
  intro p e s m args below meth c
  unfold fX9_hinders
  refine g_aload_n 0 rfl rfl 1 rfl dX9_hinders_0 ?_
  refine g_iload_n 1 rfl rfl 2 rfl dX9_hinders_1 ?_
  refine g_iload_n 3 rfl rfl 3 rfl dX9_hinders_2 ?_
  refine p_xVR 0 [.int p0, .int p2] [] (c_X9_foundWith l hO hX hl0 hT M p0 p2) (fun _ => rfl) dX9_hinders_3 uv_X9_159 rfl yk_X9_foundWith ⟨by decide, by decide⟩ (lx_X hX).1 (lx_X hX).2 rfl (Nat.le_of_ble_eq_true rfl) rfl 6 rfl ?_
  intro o1
  refine g_grd (fun ho10 => ?_)
  have ho1 := isJb_of ho10
  refine g_astoreA [(6, .ref (wA Ω o1)), (0, .ref (wA Ω 0)), (1, .int p0), (2, .int p1), (3, .int p2), (4, .int p3), (5, .int p4)] 8 rfl dX9_hinders_6 (by decide) rfl ?_
  refine g_iload_n 3 rfl rfl 9 rfl dX9_hinders_8 ?_
  refine p_cSI [.int p1] [] (c_X9_isPlan l hO M p1) dX9_hinders_9 us_X9_222 rfl yk_X9_isPlan ⟨by decide, by decide⟩ (Nat.le_of_ble_eq_true rfl) rfl 12 rfl ?_
  intro x2
  refine g_iconst 1 13 rfl dX9_hinders_12 (by decide) ?_
  refine p_xSV [.int x2, .int 1] [] (c_X9_need l hO hl0 hT M x2 1) (fun _ => rfl) dX9_hinders_13 us_X9_68 rfl yk_X9_need ⟨by decide, by decide⟩ (Nat.le_of_ble_eq_true rfl) rfl 16 rfl ?_
  intro u3
  refine g_aload_n 1 rfl rfl 17 rfl dX9_hinders_16 ?_
  refine g_iload 5 rfl 19 rfl dX9_hinders_17 ?_
  refine g_iload 6 rfl 21 rfl dX9_hinders_19 ?_
  refine p_cVI 0 [.int p3, .int p4] [] (c_X9_isGreen l hO hX M p3 p4) dX9_hinders_21 uv_X9_225 rfl yk_X9_isGreen ⟨by decide, by decide⟩ (lx_X hX).1 (lx_X hX).2 rfl (Nat.le_of_ble_eq_true rfl) rfl 24 rfl ?_
  intro x4
  refine g_iconst 2 25 rfl dX9_hinders_24 (by decide) ?_
  refine p_xSV [.int x4, .int 2] [] (c_X9_need l hO hl0 hT M x4 2) (fun _ => rfl) dX9_hinders_25 us_X9_68 rfl yk_X9_need ⟨by decide, by decide⟩ (Nat.le_of_ble_eq_true rfl) rfl 28 rfl ?_
  intro u5
  refine g_aload 0 rfl 30 rfl dX9_hinders_28 ?_
  refine g_iload_n 3 rfl rfl 31 rfl dX9_hinders_30 ?_
  refine g_iload_n 4 rfl rfl 32 rfl dX9_hinders_31 ?_
  refine g_iload 5 rfl 34 rfl dX9_hinders_32 ?_
  refine g_iload 6 rfl 36 rfl dX9_hinders_34 ?_
  refine g_aload_n 1 rfl rfl 37 rfl dX9_hinders_36 ?_
  refine w_getR (lx_X hX) rfl in_X9 0 (by decide) wf_X9_12 1 rfl 40 rfl dX9_hinders_37 ?_
  refine w_get (lx_S hX isS_1) rfl in_X6 0 (by decide) wf_X9_80 rfl 43 rfl dX9_hinders_40 ?_
  refine p_cVI o1 [.int p1, .int p2, .int p3, .int p4, .int (M 1 0)] [] (c_X2_reasonAgainstGreen l hO hX ho1 M p1 p2 p3 p4 (M 1 0)) dX9_hinders_43 uv_X9_228 rfl yk_X2_reasonAgainstGreen ⟨by decide, by decide⟩ (lx_J hX ho1).1 (lx_J hX ho1).2 rfl (Nat.le_of_ble_eq_true rfl) rfl 46 rfl ?_
  intro x6
  exact p_iretX rfl dX9_hinders_46
def fX9_dark (M : Mem) (p0 : Int32) (p1 : Int32) (p2 : Int32) : Option ((Nat ⊕ Int32) × Mem) := clpm M (fX9_foundWith M p0 p2) (fun o1 => grd (isJb o1) (clp (fX9_isPlan M p1) (fun x2 => clpm M (fX9_need M x2 1) (fun u3 => clp (fX2_isChangePlanned M o1) (fun x4 => jn (fun (a5 : Int32) => clpm M (fX9_need M a5 3) (fun u7 => cl (fX1_push M 1) (fun u8 M9 => clp (fX2_lengthOf M9 o1 p1 p2) (fun x10 => cl (fX2_setGreen M9 o1 p1 p2 0 0) (fun u11 M12 => some (.inr x10, M12)))))) (fun k6 => if x4 = 0 then (k6 1) else (k6 0)))))))
set_option maxRecDepth 100000 in
set_option maxHeartbeats 4000000 in
theorem c_X9_dark {Ω : Wd} (l : Launch) (hO : OkW Ω) (hX : LX Ω) (hl0 : l.stackTraces = false) (hT : ThrOk Ω)  (M : Mem) (p0 : Int32) (p1 : Int32) (p2 : Int32) : ∀ r, fX9_dark M p0 p1 p2 = some r → Ct l yX9_dark (.code yX9_dark cX9_dark 6 (some .int)) 9 184 Ω [.ref (wA Ω 0), .int p0, .int p1, .int p2] M (cvIX r) := by
  refine ofG [(0, .ref (wA Ω 0)), (1, .int p0), (2, .int p1), (3, .int p2)] hO (by decide) rfl (Nat.le_of_ble_eq_true rfl) rfl ?_
  intro p e s m args below meth c
  unfold fX9_dark
  refine g_aload_n 0 rfl rfl 1 rfl dX9_dark_0 ?_
  refine g_iload_n 1 rfl rfl 2 rfl dX9_dark_1 ?_
  refine g_iload_n 3 rfl rfl 3 rfl dX9_dark_2 ?_
  refine q_xVR 0 [.int p0, .int p2] [] (c_X9_foundWith l hO hX hl0 hT M p0 p2) (fun _ _ => rfl) dX9_dark_3 uv_X9_159 rfl yk_X9_foundWith ⟨by decide, by decide⟩ (lx_X hX).1 (lx_X hX).2 rfl (Nat.le_of_ble_eq_true rfl) rfl 6 rfl ?_
  intro o1
  refine g_grd (fun ho10 => ?_)
  have ho1 := isJb_of ho10
  refine g_astoreA [(4, .ref (wA Ω o1)), (0, .ref (wA Ω 0)), (1, .int p0), (2, .int p1), (3, .int p2)] 8 rfl dX9_dark_6 (by decide) rfl ?_
  refine g_iload_n 3 rfl rfl 9 rfl dX9_dark_8 ?_
  refine p_cSI [.int p1] [] (c_X9_isPlan l hO M p1) dX9_dark_9 us_X9_222 rfl yk_X9_isPlan ⟨by decide, by decide⟩ (Nat.le_of_ble_eq_true rfl) rfl 12 rfl ?_
  intro x2
  refine g_iconst 1 13 rfl dX9_dark_12 (by decide) ?_
  refine q_xSV [.int x2, .int 1] [] (c_X9_need l hO hl0 hT M x2 1) (fun _ _ => rfl) dX9_dark_13 us_X9_68 rfl yk_X9_need ⟨by decide, by decide⟩ (Nat.le_of_ble_eq_true rfl) rfl 16 rfl ?_
  intro u3
  refine g_aload 0 rfl 18 rfl dX9_dark_16 ?_
  refine p_cVI o1 [] [] (c_X2_isChangePlanned l hO hX ho1 M) dX9_dark_18 uv_X9_194 rfl yk_X2_isChangePlanned ⟨by decide, by decide⟩ (lx_J hX ho1).1 (lx_J hX ho1).2 rfl (Nat.le_of_ble_eq_true rfl) rfl 21 rfl ?_
  intro x4
  refine g_join 29 (fun a5 => [(0, .ref (wA Ω 0)), (2, .int p1), (3, .int p2), (4, .ref (wA Ω o1))]) (fun a5 => [.int a5]) (fun a5 => M) ?_ ?_
  · intro a5
    refine g_iconst 3 30 rfl dX9_dark_29 (by decide) ?_
    refine q_xSV [.int a5, .int 3] [] (c_X9_need l hO hl0 hT M a5 3) (fun _ _ => rfl) dX9_dark_30 us_X9_68 rfl yk_X9_need ⟨by decide, by decide⟩ (Nat.le_of_ble_eq_true rfl) rfl 33 rfl ?_
    intro u7
    refine g_aload_n 0 rfl rfl 34 rfl dX9_dark_33 ?_
    refine w_getR (lx_X hX) rfl in_X9 3 (by decide) wf_X9_25 463 rfl 37 rfl dX9_dark_34 ?_
    refine g_aload_n 0 rfl rfl 38 rfl dX9_dark_37 ?_
    refine w_getR (lx_X hX) rfl in_X9 0 (by decide) wf_X9_12 1 rfl 41 rfl dX9_dark_38 ?_
    refine g_cVV 463 [.ref (wA Ω 1)] [] (c_X1_push l hO hX isS_1 M) dX9_dark_41 uv_X9_76 rfl yk_X1_push ⟨by decide, by decide⟩ (lx_H hX).1 (lx_H hX).2 rfl (Nat.le_of_ble_eq_true rfl) rfl 44 rfl ?_
    intro u8 M9
    refine g_aload 3 rfl 46 rfl dX9_dark_44 ?_
    refine g_iload_n 1 rfl rfl 47 rfl dX9_dark_46 ?_
    refine g_iload_n 2 rfl rfl 48 rfl dX9_dark_47 ?_
    refine p_cVI o1 [.int p1, .int p2] [] (c_X2_lengthOf l hO hX ho1 M9 p1 p2) dX9_dark_48 uv_X9_231 rfl yk_X2_lengthOf ⟨by decide, by decide⟩ (lx_J hX ho1).1 (lx_J hX ho1).2 rfl (Nat.le_of_ble_eq_true rfl) rfl 51 rfl ?_
    intro x10
    refine g_istoreA [(5, .int x10), (0, .ref (wA Ω 0)), (2, .int p1), (3, .int p2), (4, .ref (wA Ω o1))] 53 rfl dX9_dark_51 (by decide) rfl ?_
    refine g_aload 4 rfl 55 rfl dX9_dark_53 ?_
    refine g_iload_n 2 rfl rfl 56 rfl dX9_dark_55 ?_
    refine g_iload_n 3 rfl rfl 57 rfl dX9_dark_56 ?_
    refine g_iconst 0 58 rfl dX9_dark_57 (by decide) ?_
    refine g_iconst 0 59 rfl dX9_dark_58 (by decide) ?_
    refine g_cVV o1 [.int p1, .int p2, .int 0, .int 0] [] (c_X2_setGreen l hO hX ho1 M9 p1 p2 0 0) dX9_dark_59 uv_X9_234 rfl yk_X2_setGreen ⟨by decide, by decide⟩ (lx_J hX ho1).1 (lx_J hX ho1).2 rfl (Nat.le_of_ble_eq_true rfl) rfl 62 rfl ?_
    intro u11 M12
    refine g_iload 0 rfl 64 rfl dX9_dark_62 ?_
    exact g_iretX rfl dX9_dark_64
  · intro k6 hk6
    refine g_if_ne 28 (by decide) 24 rfl dX9_dark_21 ?_ ?_
    · refine g_iconst 1 25 rfl dX9_dark_24 (by decide) ?_
      refine g_goto 29 (by decide) dX9_dark_25 ?_
      refine g_sub [(0, .ref (wA Ω 0)), (2, .int p1), (3, .int p2), (4, .ref (wA Ω o1))] [1, 3, 4, 0] rfl ?_
      exact hk6 1
    · refine g_iconst 0 29 rfl dX9_dark_28 (by decide) ?_
      refine g_sub [(0, .ref (wA Ω 0)), (2, .int p1), (3, .int p2), (4, .ref (wA Ω o1))] [1, 3, 4, 0] rfl ?_
      exact hk6 0
def fX9_make (M : Mem) (p0 : Int32) (p1 : Int32) : Option ((Nat ⊕ Int32) × Mem) := clpm M (fX9_found M p0) (fun o1 => grd (isJb o1) (clp (fX9_isPlan M p1) (fun x2 => clpm M (fX9_need M x2 1) (fun u3 => jn (fun (a4 : Int32) => clpm M (fX9_need M a4 3) (fun u6 => cl (fX3_layOut M o1 (M 1 0)) (fun x7 M8 => cl (fX9_faultOfReason M8 x7) (fun x9 M10 => clpm M10 (fX9_raise M10 x9) (fun u11 => cl (fX1_push M10 1) (fun u12 M13 => cl (fX3_giveGreens M13 o1 p1) (fun u14 M15 => some (.inr (M15 465 0), M15)))))))) (fun k5 => jn (fun (a16 : Unit) => k5 0) (fun k17 => if M o1 2 ≤ 0 then (k17 ()) else (clp (fX2_isChangePlanned M o1) (fun x18 => if x18 = 0 then (k5 1) else (k17 ())))))))))
set_option maxRecDepth 100000 in
set_option maxHeartbeats 4000000 in
theorem c_X9_make {Ω : Wd} (l : Launch) (hO : OkW Ω) (hX : LX Ω) (hl0 : l.stackTraces = false) (hT : ThrOk Ω)  (M : Mem) (p0 : Int32) (p1 : Int32) : ∀ r, fX9_make M p0 p1 = some r → Ct l yX9_make (.code yX9_make cX9_make 4 (some .int)) 14 347 Ω [.ref (wA Ω 0), .int p0, .int p1] M (cvIX r) := by
  refine ofG [(0, .ref (wA Ω 0)), (1, .int p0), (2, .int p1)] hO (by decide) rfl (Nat.le_of_ble_eq_true rfl) rfl ?_
  intro p e s m args below meth c
  unfold fX9_make
  refine g_aload_n 0 rfl rfl 1 rfl dX9_make_0 ?_
  refine g_iload_n 1 rfl rfl 2 rfl dX9_make_1 ?_
  refine q_xVR 0 [.int p0] [] (c_X9_found l hO hX hl0 hT M p0) (fun _ _ => rfl) dX9_make_2 uv_X9_115 rfl yk_X9_found ⟨by decide, by decide⟩ (lx_X hX).1 (lx_X hX).2 rfl (Nat.le_of_ble_eq_true rfl) rfl 5 rfl ?_
  intro o1
  refine g_grd (fun ho10 => ?_)
  have ho1 := isJb_of ho10
  refine g_astore_nA [(3, .ref (wA Ω o1)), (0, .ref (wA Ω 0)), (1, .int p0), (2, .int p1)] rfl 6 rfl dX9_make_5 (by decide) rfl ?_
  refine g_iload_n 3 rfl rfl 7 rfl dX9_make_6 ?_
  refine p_cSI [.int p1] [] (c_X9_isPlan l hO M p1) dX9_make_7 us_X9_222 rfl yk_X9_isPlan ⟨by decide, by decide⟩ (Nat.le_of_ble_eq_true rfl) rfl 10 rfl ?_
  intro x2
  refine g_iconst 1 11 rfl dX9_make_10 (by decide) ?_
  refine q_xSV [.int x2, .int 1] [] (c_X9_need l hO hl0 hT M x2 1) (fun _ _ => rfl) dX9_make_11 us_X9_68 rfl yk_X9_need ⟨by decide, by decide⟩ (Nat.le_of_ble_eq_true rfl) rfl 14 rfl ?_
  intro u3
  refine g_aload_n 0 rfl rfl 15 rfl dX9_make_14 ?_
  refine w_get (lx_J hX ho1) rfl in_X2 2 (by decide) wf_X9_127 rfl 18 rfl dX9_make_15 ?_
  refine g_join 33 (fun a4 => [(0, .ref (wA Ω 0)), (2, .int p1), (3, .ref (wA Ω o1))]) (fun a4 => [.int a4]) (fun a4 => M) ?_ ?_
  · intro a4
    refine g_iconst 3 34 rfl dX9_make_33 (by decide) ?_
    refine q_xSV [.int a4, .int 3] [] (c_X9_need l hO hl0 hT M a4 3) (fun _ _ => rfl) dX9_make_34 us_X9_68 rfl yk_X9_need ⟨by decide, by decide⟩ (Nat.le_of_ble_eq_true rfl) rfl 37 rfl ?_
    intro u6
    refine g_aload_n 0 rfl rfl 38 rfl dX9_make_37 ?_
    refine g_aload_n 0 rfl rfl 39 rfl dX9_make_38 ?_
    refine w_getR (lx_X hX) rfl in_X9 4 (by decide) wf_X9_32 465 rfl 42 rfl dX9_make_39 ?_
    refine g_aload_n 2 rfl rfl 43 rfl dX9_make_42 ?_
    refine g_aload_n 0 rfl rfl 44 rfl dX9_make_43 ?_
    refine w_getR (lx_X hX) rfl in_X9 0 (by decide) wf_X9_12 1 rfl 47 rfl dX9_make_44 ?_
    refine w_get (lx_S hX isS_1) rfl in_X6 0 (by decide) wf_X9_80 rfl 50 rfl dX9_make_47 ?_
    refine g_cVI 465 [.ref (wA Ω o1), .int (M 1 0)] [.ref (wA Ω 0)] (c_X3_layOut l hO hX ho1 M (M 1 0)) dX9_make_50 uv_X9_237 rfl yk_X3_layOut ⟨by decide, by decide⟩ (lx_P hX).1 (lx_P hX).2 rfl (Nat.le_of_ble_eq_true rfl) rfl 53 rfl ?_
    intro x7 M8
    refine g_cVI 0 [.int x7] [] (c_X9_faultOfReason l hO hX M8 x7) dX9_make_53 uv_X9_202 rfl yk_X9_faultOfReason ⟨by decide, by decide⟩ (lx_X hX).1 (lx_X hX).2 rfl (Nat.le_of_ble_eq_true rfl) rfl 56 rfl ?_
    intro x9 M10
    refine q_xSV [.int x9] [] (c_X9_raise l hO hl0 hT M10 x9) (fun _ _ => rfl) dX9_make_56 us_X9_101 rfl yk_X9_raise ⟨by decide, by decide⟩ (Nat.le_of_ble_eq_true rfl) rfl 59 rfl ?_
    intro u11
    refine g_aload_n 0 rfl rfl 60 rfl dX9_make_59 ?_
    refine w_getR (lx_X hX) rfl in_X9 3 (by decide) wf_X9_25 463 rfl 63 rfl dX9_make_60 ?_
    refine g_aload_n 0 rfl rfl 64 rfl dX9_make_63 ?_
    refine w_getR (lx_X hX) rfl in_X9 0 (by decide) wf_X9_12 1 rfl 67 rfl dX9_make_64 ?_
    refine g_cVV 463 [.ref (wA Ω 1)] [] (c_X1_push l hO hX isS_1 M10) dX9_make_67 uv_X9_76 rfl yk_X1_push ⟨by decide, by decide⟩ (lx_H hX).1 (lx_H hX).2 rfl (Nat.le_of_ble_eq_true rfl) rfl 70 rfl ?_
    intro u12 M13
    refine g_aload_n 0 rfl rfl 71 rfl dX9_make_70 ?_
    refine w_getR (lx_X hX) rfl in_X9 4 (by decide) wf_X9_32 465 rfl 74 rfl dX9_make_71 ?_
    refine g_aload_n 2 rfl rfl 75 rfl dX9_make_74 ?_
    refine g_iload_n 1 rfl rfl 76 rfl dX9_make_75 ?_
    refine g_cVV 465 [.ref (wA Ω o1), .int p1] [] (c_X3_giveGreens l hO hX ho1 M13 p1) dX9_make_76 uv_X9_241 rfl yk_X3_giveGreens ⟨by decide, by decide⟩ (lx_P hX).1 (lx_P hX).2 rfl (Nat.le_of_ble_eq_true rfl) rfl 79 rfl ?_
    intro u14 M15
    refine g_aload_n 0 rfl rfl 80 rfl dX9_make_79 ?_
    refine w_getR (lx_X hX) rfl in_X9 4 (by decide) wf_X9_32 465 rfl 83 rfl dX9_make_80 ?_
    refine w_get (lx_P hX) rfl in_X3 0 (by decide) wf_X9_245 rfl 86 rfl dX9_make_83 ?_
    exact g_iretX rfl dX9_make_86
  · intro k5 hk5
    refine g_join 32 (fun a16 => [(0, .ref (wA Ω 0)), (2, .int p1), (3, .ref (wA Ω o1))]) (fun a16 => []) (fun a16 => M) ?_ ?_
    · intro a16
      refine g_iconst 0 33 rfl dX9_make_32 (by decide) ?_
      exact hk5 0
    · intro k17 hk17
      refine g_if_le 32 (by decide) 21 rfl dX9_make_18 ?_ ?_
      · refine g_sub [(0, .ref (wA Ω 0)), (2, .int p1), (3, .ref (wA Ω o1))] [1, 3, 0] rfl ?_
        exact hk17 ()
      · refine g_aload_n 0 rfl rfl 22 rfl dX9_make_21 ?_
        refine p_cVI o1 [] [] (c_X2_isChangePlanned l hO hX ho1 M) dX9_make_22 uv_X9_194 rfl yk_X2_isChangePlanned ⟨by decide, by decide⟩ (lx_J hX ho1).1 (lx_J hX ho1).2 rfl (Nat.le_of_ble_eq_true rfl) rfl 25 rfl ?_
        intro x18
        refine g_if_ne 32 (by decide) 28 rfl dX9_make_25 ?_ ?_
        · refine g_iconst 1 29 rfl dX9_make_28 (by decide) ?_
          refine g_goto 33 (by decide) dX9_make_29 ?_
          refine g_sub [(0, .ref (wA Ω 0)), (2, .int p1), (3, .ref (wA Ω o1))] [1, 3, 0] rfl ?_
          exact hk5 1
        · refine g_sub [(0, .ref (wA Ω 0)), (2, .int p1), (3, .ref (wA Ω o1))] [1, 3, 0] rfl ?_
          exact hk17 ()
def fX9_phase (M : Mem) (p0 : Int32) (p1 : Int32) : Option ((Nat ⊕ Int32) × Mem) := clpm M (fX9_foundWith M p0 p1) (fun o1 => grd (isJb o1) (cl (fX3_divide M o1) (fun u2 M3 => grd (inb p1 6) (some (.inr (M3 466 p1.toNatClampNeg), M3)))))
set_option maxRecDepth 100000 in
set_option maxHeartbeats 4000000 in
theorem c_X9_phase {Ω : Wd} (l : Launch) (hO : OkW Ω) (hX : LX Ω) (hl0 : l.stackTraces = false) (hT : ThrOk Ω)  (M : Mem) (p0 : Int32) (p1 : Int32) : ∀ r, fX9_phase M p0 p1 = some r → Ct l yX9_phase (.code yX9_phase cX9_phase 4 (some .int)) 13 323 Ω [.ref (wA Ω 0), .int p0, .int p1] M (cvIX r) := by
  refine ofG [(0, .ref (wA Ω 0)), (1, .int p0), (2, .int p1)] hO (by decide) rfl (Nat.le_of_ble_eq_true rfl) rfl ?_
  intro p e s m args below meth c
  unfold fX9_phase
  refine g_aload_n 0 rfl rfl 1 rfl dX9_phase_0 ?_
  refine g_iload_n 1 rfl rfl 2 rfl dX9_phase_1 ?_
  refine g_iload_n 2 rfl rfl 3 rfl dX9_phase_2 ?_
  refine q_xVR 0 [.int p0, .int p1] [] (c_X9_foundWith l hO hX hl0 hT M p0 p1) (fun _ _ => rfl) dX9_phase_3 uv_X9_159 rfl yk_X9_foundWith ⟨by decide, by decide⟩ (lx_X hX).1 (lx_X hX).2 rfl (Nat.le_of_ble_eq_true rfl) rfl 6 rfl ?_
  intro o1
  refine g_grd (fun ho10 => ?_)
  have ho1 := isJb_of ho10
  refine g_astore_nA [(3, .ref (wA Ω o1)), (0, .ref (wA Ω 0)), (1, .int p0), (2, .int p1)] rfl 7 rfl dX9_phase_6 (by decide) rfl ?_
  refine g_aload_n 1 rfl rfl 8 rfl dX9_phase_7 ?_
  refine w_getR (lx_X hX) rfl in_X9 4 (by decide) wf_X9_32 465 rfl 11 rfl dX9_phase_8 ?_
  refine g_aload_n 0 rfl rfl 12 rfl dX9_phase_11 ?_
  refine g_cVV 465 [.ref (wA Ω o1)] [] (c_X3_divide l hO hX ho1 M) dX9_phase_12 uv_X9_248 rfl yk_X3_divide ⟨by decide, by decide⟩ (lx_P hX).1 (lx_P hX).2 rfl (Nat.le_of_ble_eq_true rfl) rfl 15 rfl ?_
  intro u2 M3
  refine g_aload_n 1 rfl rfl 16 rfl dX9_phase_15 ?_
  refine w_getR (lx_X hX) rfl in_X9 4 (by decide) wf_X9_32 465 rfl 19 rfl dX9_phase_16 ?_
  refine w_getR (lx_P hX) rfl in_X3 1 (by decide) wf_X9_252 466 rfl 22 rfl dX9_phase_19 ?_
  refine g_iload_n 3 rfl rfl 23 rfl dX9_phase_22 ?_
  refine w_iald (lx_P1 hX) 24 rfl dX9_phase_23 ?_
  exact g_iretX rfl dX9_phase_24
def fX9_greenOf (M : Mem) (p0 : Int32) (p1 : Int32) (p2 : Int32) (p3 : Int32) : Option (Nat ⊕ Int32) := clpx (fX9_foundWith M p0 p2) (fun o1 => grd (isJb o1) (clp (fX9_isPlan M p1) (fun x2 => clpx (fX9_need M x2 1) (fun u3 => clp (fX2_hasGreen M o1 p1 p2) (fun x4 => clpx (fX9_need M x4 5) (fun u5 => jn (fun (a6 : Int32) => some (.inr a6)) (fun k7 => if p3 = 0 then (clp (fX2_firstOf M o1 p1 p2) (fun x8 => k7 x8)) else (clp (fX2_lengthOf M o1 p1 p2) (fun x9 => k7 x9)))))))))
set_option maxRecDepth 100000 in
set_option maxHeartbeats 4000000 in
theorem c_X9_greenOf {Ω : Wd} (l : Launch) (hO : OkW Ω) (hX : LX Ω) (hl0 : l.stackTraces = false) (hT : ThrOk Ω)  (M : Mem) (p0 : Int32) (p1 : Int32) (p2 : Int32) (p3 : Int32) : ∀ r, fX9_greenOf M p0 p1 p2 p3 = some r → Ct l yX9_greenOf (.code yX9_greenOf cX9_greenOf 6 (some .int)) 9 184 Ω [.ref (wA Ω 0), .int p0, .int p1, .int p2, .int p3] M ((cpIX M) r) := by
  refine ofG [(0, .ref (wA Ω 0)), (1, .int p0), (2, .int p1), (3, .int p2), (4, .int p3)] hO (by decide) rfl (Nat.le_of_ble_eq_true rfl) rfl ?_
  intro p e s m args below meth c
  unfold fX9_greenOf
  refine g_aload_n 0 rfl rfl 1 rfl dX9_greenOf_0 ?_
  refine g_iload_n 1 rfl rfl 2 rfl dX9_greenOf_1 ?_
  refine g_iload_n 3 rfl rfl 3 rfl dX9_greenOf_2 ?_
  refine p_xVR 0 [.int p0, .int p2] [] (c_X9_foundWith l hO hX hl0 hT M p0 p2) (fun _ => rfl) dX9_greenOf_3 uv_X9_159 rfl yk_X9_foundWith ⟨by decide, by decide⟩ (lx_X hX).1 (lx_X hX).2 rfl (Nat.le_of_ble_eq_true rfl) rfl 6 rfl ?_
  intro o1
  refine g_grd (fun ho10 => ?_)
  have ho1 := isJb_of ho10
  refine g_astoreA [(5, .ref (wA Ω o1)), (0, .ref (wA Ω 0)), (1, .int p0), (2, .int p1), (3, .int p2), (4, .int p3)] 8 rfl dX9_greenOf_6 (by decide) rfl ?_
  refine g_iload_n 3 rfl rfl 9 rfl dX9_greenOf_8 ?_
  refine p_cSI [.int p1] [] (c_X9_isPlan l hO M p1) dX9_greenOf_9 us_X9_222 rfl yk_X9_isPlan ⟨by decide, by decide⟩ (Nat.le_of_ble_eq_true rfl) rfl 12 rfl ?_
  intro x2
  refine g_iconst 1 13 rfl dX9_greenOf_12 (by decide) ?_
  refine p_xSV [.int x2, .int 1] [] (c_X9_need l hO hl0 hT M x2 1) (fun _ => rfl) dX9_greenOf_13 us_X9_68 rfl yk_X9_need ⟨by decide, by decide⟩ (Nat.le_of_ble_eq_true rfl) rfl 16 rfl ?_
  intro u3
  refine g_aload 0 rfl 18 rfl dX9_greenOf_16 ?_
  refine g_iload_n 3 rfl rfl 19 rfl dX9_greenOf_18 ?_
  refine g_iload_n 4 rfl rfl 20 rfl dX9_greenOf_19 ?_
  refine p_cVI o1 [.int p1, .int p2] [] (c_X2_hasGreen l hO hX ho1 M p1 p2) dX9_greenOf_20 uv_X9_255 rfl yk_X2_hasGreen ⟨by decide, by decide⟩ (lx_J hX ho1).1 (lx_J hX ho1).2 rfl (Nat.le_of_ble_eq_true rfl) rfl 23 rfl ?_
  intro x4
  refine g_iconst 5 24 rfl dX9_greenOf_23 (by decide) ?_
  refine p_xSV [.int x4, .int 5] [] (c_X9_need l hO hl0 hT M x4 5) (fun _ => rfl) dX9_greenOf_24 us_X9_68 rfl yk_X9_need ⟨by decide, by decide⟩ (Nat.le_of_ble_eq_true rfl) rfl 27 rfl ?_
  intro u5
  refine g_iload 5 rfl 29 rfl dX9_greenOf_27 ?_
  refine g_join 49 (fun a6 => []) (fun a6 => [.int a6]) (fun a6 => M) ?_ ?_
  · intro a6
    exact p_iretX rfl dX9_greenOf_49
  · intro k7 hk7
    refine g_if_eq 42 (by decide) 32 rfl dX9_greenOf_29 ?_ ?_
    · refine g_aload 0 rfl 44 rfl dX9_greenOf_42 ?_
      refine g_iload_n 3 rfl rfl 45 rfl dX9_greenOf_44 ?_
      refine g_iload_n 4 rfl rfl 46 rfl dX9_greenOf_45 ?_
      refine p_cVI o1 [.int p1, .int p2] [] (c_X2_firstOf l hO hX ho1 M p1 p2) dX9_greenOf_46 uv_X9_258 rfl yk_X2_firstOf ⟨by decide, by decide⟩ (lx_J hX ho1).1 (lx_J hX ho1).2 rfl (Nat.le_of_ble_eq_true rfl) rfl 49 rfl ?_
      intro x8
      refine g_sub [] [] rfl ?_
      exact hk7 x8
    · refine g_aload 0 rfl 34 rfl dX9_greenOf_32 ?_
      refine g_iload_n 3 rfl rfl 35 rfl dX9_greenOf_34 ?_
      refine g_iload_n 4 rfl rfl 36 rfl dX9_greenOf_35 ?_
      refine p_cVI o1 [.int p1, .int p2] [] (c_X2_lengthOf l hO hX ho1 M p1 p2) dX9_greenOf_36 uv_X9_231 rfl yk_X2_lengthOf ⟨by decide, by decide⟩ (lx_J hX ho1).1 (lx_J hX ho1).2 rfl (Nat.le_of_ble_eq_true rfl) rfl 39 rfl ?_
      intro x9
      refine g_goto 49 (by decide) dX9_greenOf_39 ?_
      refine g_sub [] [] rfl ?_
      exact hk7 x9
def fX9_press (M : Mem) (p0 : Int32) (p1 : Int32) : Option ((Nat ⊕ Int32) × Mem) := clp (fX9_pressFault M p0 p1) (fun x1 => clpm M (fX9_raise M x1) (fun u2 => cl (fX1_push M 1) (fun u3 M4 => clx (fX9_makeRequest M4 p0 p1) (fun x5 M6 => some (.inr x5, M6)))))
set_option maxRecDepth 100000 in
set_option maxHeartbeats 4000000 in
theorem c_X9_press {Ω : Wd} (l : Launch) (hO : OkW Ω) (hX : LX Ω) (hl0 : l.stackTraces = false) (hT : ThrOk Ω)  (M : Mem) (p0 : Int32) (p1 : Int32) : ∀ r, fX9_press M p0 p1 = some r → Ct l yX9_press (.code yX9_press cX9_press 3 (some .int)) 8 165 Ω [.ref (wA Ω 0), .int p0, .int p1] M (cvIX r) := by
  refine ofG [(0, .ref (wA Ω 0)), (1, .int p0), (2, .int p1)] hO (by decide) rfl (Nat.le_of_ble_eq_true rfl) rfl ?_
  intro p e s m args below meth c
  unfold fX9_press
  refine g_aload_n 0 rfl rfl 1 rfl dX9_press_0 ?_
  refine g_iload_n 1 rfl rfl 2 rfl dX9_press_1 ?_
  refine g_iload_n 2 rfl rfl 3 rfl dX9_press_2 ?_
  refine p_cVI 0 [.int p0, .int p1] [] (c_X9_pressFault l hO hX M p0 p1) dX9_press_3 uv_X9_293 rfl yk_X9_pressFault ⟨by decide, by decide⟩ (lx_X hX).1 (lx_X hX).2 rfl (Nat.le_of_ble_eq_true rfl) rfl 6 rfl ?_
  intro x1
  refine q_xSV [.int x1] [] (c_X9_raise l hO hl0 hT M x1) (fun _ _ => rfl) dX9_press_6 us_X9_101 rfl yk_X9_raise ⟨by decide, by decide⟩ (Nat.le_of_ble_eq_true rfl) rfl 9 rfl ?_
  intro u2
  refine g_aload_n 0 rfl rfl 10 rfl dX9_press_9 ?_
  refine w_getR (lx_X hX) rfl in_X9 3 (by decide) wf_X9_25 463 rfl 13 rfl dX9_press_10 ?_
  refine g_aload_n 0 rfl rfl 14 rfl dX9_press_13 ?_
  refine w_getR (lx_X hX) rfl in_X9 0 (by decide) wf_X9_12 1 rfl 17 rfl dX9_press_14 ?_
  refine g_cVV 463 [.ref (wA Ω 1)] [] (c_X1_push l hO hX isS_1 M) dX9_press_17 uv_X9_76 rfl yk_X1_push ⟨by decide, by decide⟩ (lx_H hX).1 (lx_H hX).2 rfl (Nat.le_of_ble_eq_true rfl) rfl 20 rfl ?_
  intro u3 M4
  refine g_aload_n 0 rfl rfl 21 rfl dX9_press_20 ?_
  refine g_iload_n 1 rfl rfl 22 rfl dX9_press_21 ?_
  refine g_iload_n 2 rfl rfl 23 rfl dX9_press_22 ?_
  refine g_xVI 0 [.int p0, .int p1] [] (c_X9_makeRequest l hO hX hl0 hT M4 p0 p1) (fun _ _ => rfl) dX9_press_23 uv_X9_296 rfl yk_X9_makeRequest ⟨by decide, by decide⟩ (lx_X hX).1 (lx_X hX).2 rfl (Nat.le_of_ble_eq_true rfl) rfl 26 rfl ?_
  intro x5 M6
  exact g_iretX rfl dX9_press_26
def fX9_mount (M : Mem) (p0 : Int32) (p1 : Int32) (p2 : Int32) (p3 : Int32) : Option ((Nat ⊕ Int32) × Mem) := clpm M (fX9_foundWith M p0 p1) (fun o1 => grd (isJb o1) (clp (fX9_isWithin M p2 0 2) (fun x2 => clpm M (fX9_need M x2 1) (fun u3 => clp (fX9_isWithin M p3 0 3) (fun x4 => clpm M (fX9_need M x4 2) (fun u5 => clp (fX2_takesHead M o1 p1 p3) (fun x6 => jn (fun (a7 : Int32) => cl (fX9_faultOfReason M a7) (fun x9 M10 => clpm M10 (fX9_raise M10 x9) (fun u11 => cl (fX1_push M10 1) (fun u12 M13 => grd (inb ((p1 * 3) + p2) 18) (bnd (mset M13 (o1 + 6) ((p1 * 3) + p2).toNatClampNeg p3) (fun M14 => clp (fX2_headCount M14 o1 p1) (fun x15 => some (.inr x15, M14)))))))) (fun k8 => if x6 = 0 then (k8 8) else (k8 0)))))))))
set_option maxRecDepth 100000 in
set_option maxHeartbeats 4000000 in
theorem c_X9_mount {Ω : Wd} (l : Launch) (hO : OkW Ω) (hX : LX Ω) (hl0 : l.stackTraces = false) (hT : ThrOk Ω)  (M : Mem) (p0 : Int32) (p1 : Int32) (p2 : Int32) (p3 : Int32) : ∀ r, fX9_mount M p0 p1 p2 p3 = some r → Ct l yX9_mount (.code yX9_mount cX9_mount 6 (some .int)) 9 184 Ω [.ref (wA Ω 0), .int p0, .int p1, .int p2, .int p3] M (cvIX r) := by
  refine ofG [(0, .ref (wA Ω 0)), (1, .int p0), (2, .int p1), (3, .int p2), (4, .int p3)] hO (by decide) rfl (Nat.le_of_ble_eq_true rfl) rfl ?_
  intro p e s m args below meth c
  unfold fX9_mount
  refine g_aload_n 0 rfl rfl 1 rfl dX9_mount_0 ?_
  refine g_iload_n 1 rfl rfl 2 rfl dX9_mount_1 ?_
  refine g_iload_n 2 rfl rfl 3 rfl dX9_mount_2 ?_
  refine q_xVR 0 [.int p0, .int p1] [] (c_X9_foundWith l hO hX hl0 hT M p0 p1) (fun _ _ => rfl) dX9_mount_3 uv_X9_159 rfl yk_X9_foundWith ⟨by decide, by decide⟩ (lx_X hX).1 (lx_X hX).2 rfl (Nat.le_of_ble_eq_true rfl) rfl 6 rfl ?_
  intro o1
  refine g_grd (fun ho10 => ?_)
  have ho1 := isJb_of ho10
  refine g_astoreA [(5, .ref (wA Ω o1)), (0, .ref (wA Ω 0)), (1, .int p0), (2, .int p1), (3, .int p2), (4, .int p3)] 8 rfl dX9_mount_6 (by decide) rfl ?_
  refine g_iload_n 4 rfl rfl 9 rfl dX9_mount_8 ?_
  refine g_iconst 0 10 rfl dX9_mount_9 (by decide) ?_
  refine g_iconst 2 11 rfl dX9_mount_10 (by decide) ?_
  refine p_cSI [.int p2, .int 0, .int 2] [] (c_X9_isWithin l hO M p2 0 2) dX9_mount_11 us_X9_64 rfl yk_X9_isWithin ⟨by decide, by decide⟩ (Nat.le_of_ble_eq_true rfl) rfl 14 rfl ?_
  intro x2
  refine g_iconst 1 15 rfl dX9_mount_14 (by decide) ?_
  refine q_xSV [.int x2, .int 1] [] (c_X9_need l hO hl0 hT M x2 1) (fun _ _ => rfl) dX9_mount_15 us_X9_68 rfl yk_X9_need ⟨by decide, by decide⟩ (Nat.le_of_ble_eq_true rfl) rfl 18 rfl ?_
  intro u3
  refine g_iload 5 rfl 20 rfl dX9_mount_18 ?_
  refine g_iconst 0 21 rfl dX9_mount_20 (by decide) ?_
  refine g_iconst 3 22 rfl dX9_mount_21 (by decide) ?_
  refine p_cSI [.int p3, .int 0, .int 3] [] (c_X9_isWithin l hO M p3 0 3) dX9_mount_22 us_X9_64 rfl yk_X9_isWithin ⟨by decide, by decide⟩ (Nat.le_of_ble_eq_true rfl) rfl 25 rfl ?_
  intro x4
  refine g_iconst 2 26 rfl dX9_mount_25 (by decide) ?_
  refine q_xSV [.int x4, .int 2] [] (c_X9_need l hO hl0 hT M x4 2) (fun _ _ => rfl) dX9_mount_26 us_X9_68 rfl yk_X9_need ⟨by decide, by decide⟩ (Nat.le_of_ble_eq_true rfl) rfl 29 rfl ?_
  intro u5
  refine g_aload_n 1 rfl rfl 30 rfl dX9_mount_29 ?_
  refine g_aload 0 rfl 32 rfl dX9_mount_30 ?_
  refine g_iload_n 3 rfl rfl 33 rfl dX9_mount_32 ?_
  refine g_iload 5 rfl 35 rfl dX9_mount_33 ?_
  refine p_cVI o1 [.int p1, .int p3] [.ref (wA Ω 0)] (c_X2_takesHead l hO hX ho1 M p1 p3) dX9_mount_35 uv_X9_314 rfl yk_X2_takesHead ⟨by decide, by decide⟩ (lx_J hX ho1).1 (lx_J hX ho1).2 rfl (Nat.le_of_ble_eq_true rfl) rfl 38 rfl ?_
  intro x6
  refine g_join 47 (fun a7 => [(0, .ref (wA Ω 0)), (2, .int p1), (3, .int p2), (4, .int p3), (5, .ref (wA Ω o1))]) (fun a7 => [.int a7, .ref (wA Ω 0)]) (fun a7 => M) ?_ ?_
  · intro a7
    refine g_cVI 0 [.int a7] [] (c_X9_faultOfReason l hO hX M a7) dX9_mount_47 uv_X9_202 rfl yk_X9_faultOfReason ⟨by decide, by decide⟩ (lx_X hX).1 (lx_X hX).2 rfl (Nat.le_of_ble_eq_true rfl) rfl 50 rfl ?_
    intro x9 M10
    refine q_xSV [.int x9] [] (c_X9_raise l hO hl0 hT M10 x9) (fun _ _ => rfl) dX9_mount_50 us_X9_101 rfl yk_X9_raise ⟨by decide, by decide⟩ (Nat.le_of_ble_eq_true rfl) rfl 53 rfl ?_
    intro u11
    refine g_aload_n 0 rfl rfl 54 rfl dX9_mount_53 ?_
    refine w_getR (lx_X hX) rfl in_X9 3 (by decide) wf_X9_25 463 rfl 57 rfl dX9_mount_54 ?_
    refine g_aload_n 0 rfl rfl 58 rfl dX9_mount_57 ?_
    refine w_getR (lx_X hX) rfl in_X9 0 (by decide) wf_X9_12 1 rfl 61 rfl dX9_mount_58 ?_
    refine g_cVV 463 [.ref (wA Ω 1)] [] (c_X1_push l hO hX isS_1 M10) dX9_mount_61 uv_X9_76 rfl yk_X1_push ⟨by decide, by decide⟩ (lx_H hX).1 (lx_H hX).2 rfl (Nat.le_of_ble_eq_true rfl) rfl 64 rfl ?_
    intro u12 M13
    refine g_aload 4 rfl 66 rfl dX9_mount_64 ?_
    refine w_getR (lx_J hX ho1) rfl in_X2 14 (by decide) wf_X9_317 (o1 + 6) rfl 69 rfl dX9_mount_66 ?_
    refine g_iload_n 1 rfl rfl 70 rfl dX9_mount_69 ?_
    refine g_iconst 3 71 rfl dX9_mount_70 (by decide) ?_
    refine g_imul 72 rfl dX9_mount_71 ?_
    refine g_iload_n 2 rfl rfl 73 rfl dX9_mount_72 ?_
    refine g_iadd 74 rfl dX9_mount_73 ?_
    refine g_iload 3 rfl 76 rfl dX9_mount_74 ?_
    refine w_iast (lx_J6 hX ho1) 77 rfl dX9_mount_76 ?_
    intro M14
    refine g_aload 4 rfl 79 rfl dX9_mount_77 ?_
    refine g_iload_n 1 rfl rfl 80 rfl dX9_mount_79 ?_
    refine p_cVI o1 [.int p1] [] (c_X2_headCount l hO hX ho1 M14 p1) dX9_mount_80 uv_X9_185 rfl yk_X2_headCount ⟨by decide, by decide⟩ (lx_J hX ho1).1 (lx_J hX ho1).2 rfl (Nat.le_of_ble_eq_true rfl) rfl 83 rfl ?_
    intro x15
    exact g_iretX rfl dX9_mount_83
  · intro k8 hk8
    refine g_if_eq 45 (by decide) 41 rfl dX9_mount_38 ?_ ?_
    · refine g_bipush 8 47 rfl dX9_mount_45 (by decide) ?_
      refine g_sub [(0, .ref (wA Ω 0)), (2, .int p1), (3, .int p2), (4, .int p3), (5, .ref (wA Ω o1))] [1, 3, 4, 5, 0] rfl ?_
      exact hk8 8
    · refine g_iconst 0 42 rfl dX9_mount_41 (by decide) ?_
      refine g_goto 47 (by decide) dX9_mount_42 ?_
      refine g_sub [(0, .ref (wA Ω 0)), (2, .int p1), (3, .int p2), (4, .int p3), (5, .ref (wA Ω o1))] [1, 3, 4, 5, 0] rfl ?_
      exact hk8 0
def fX9_litShare (M : Mem) (p0 : Int32) (p1 : Int32) : Option (Nat ⊕ Int32) := clpx (fX9_foundWith M p0 p1) (fun o1 => grd (isJb o1) (if 1 ≤ M 1 2 then (grd (inb p1 6) (grd (nn32 (FP.fdiv (FP.i2f (M (o1 + 4) p1.toNatClampNeg)) (FP.i2f (M 1 2)))) (clp (fX9_bitsOfShare M (FP.fdiv (FP.i2f (M (o1 + 4) p1.toNatClampNeg)) (FP.i2f (M 1 2)))) (fun x2 => some (.inr x2))))) else (some (.inl 5))))
set_option maxRecDepth 100000 in
set_option maxHeartbeats 4000000 in
theorem c_X9_litShare {Ω : Wd} (l : Launch) (hO : OkW Ω) (hX : LX Ω) (hl0 : l.stackTraces = false) (hT : ThrOk Ω)  (M : Mem) (p0 : Int32) (p1 : Int32) : ∀ r, fX9_litShare M p0 p1 = some r → Ct l yX9_litShare (.code yX9_litShare cX9_litShare 4 (some .int)) 9 184 Ω [.ref (wA Ω 0), .int p0, .int p1] M ((cpIX M) r) := by
  refine ofG [(0, .ref (wA Ω 0)), (1, .int p0), (2, .int p1)] hO (by decide) rfl (Nat.le_of_ble_eq_true rfl) rfl ?_
  intro p e s m args below meth c
  unfold fX9_litShare
  refine g_aload_n 0 rfl rfl 1 rfl dX9_litShare_0 ?_
  refine g_iload_n 1 rfl rfl 2 rfl dX9_litShare_1 ?_
  refine g_iload_n 2 rfl rfl 3 rfl dX9_litShare_2 ?_
  refine p_xVR 0 [.int p0, .int p1] [] (c_X9_foundWith l hO hX hl0 hT M p0 p1) (fun _ => rfl) dX9_litShare_3 uv_X9_159 rfl yk_X9_foundWith ⟨by decide, by decide⟩ (lx_X hX).1 (lx_X hX).2 rfl (Nat.le_of_ble_eq_true rfl) rfl 6 rfl ?_
  intro o1
  refine g_grd (fun ho10 => ?_)
  have ho1 := isJb_of ho10
  refine g_astore_nA [(3, .ref (wA Ω o1)), (0, .ref (wA Ω 0)), (1, .int p0), (2, .int p1)] rfl 7 rfl dX9_litShare_6 (by decide) rfl ?_
  refine g_aload_n 1 rfl rfl 8 rfl dX9_litShare_7 ?_
  refine w_getR (lx_X hX) rfl in_X9 0 (by decide) wf_X9_12 1 rfl 11 rfl dX9_litShare_8 ?_
  refine w_get (lx_S hX isS_1) rfl in_X6 2 (by decide) wf_X9_130 rfl 14 rfl dX9_litShare_11 ?_
  refine g_iconst 1 15 rfl dX9_litShare_14 (by decide) ?_
  refine g_icmp_ge 29 (by decide) 18 rfl dX9_litShare_15 ?_ ?_
  · refine g_aload_n 0 rfl rfl 30 rfl dX9_litShare_29 ?_
    refine w_getR (lx_J hX ho1) rfl in_X2 12 (by decide) wf_X9_176 (o1 + 4) rfl 33 rfl dX9_litShare_30 ?_
    refine g_iload_n 3 rfl rfl 34 rfl dX9_litShare_33 ?_
    refine w_iald (lx_J4 hX ho1) 35 rfl dX9_litShare_34 ?_
    refine f_i2f 36 rfl dX9_litShare_35 ?_
    refine g_aload_n 1 rfl rfl 37 rfl dX9_litShare_36 ?_
    refine w_getR (lx_X hX) rfl in_X9 0 (by decide) wf_X9_12 1 rfl 40 rfl dX9_litShare_37 ?_
    refine w_get (lx_S hX isS_1) rfl in_X6 2 (by decide) wf_X9_130 rfl 43 rfl dX9_litShare_40 ?_
    refine f_i2f 44 rfl dX9_litShare_43 ?_
    refine f_fdiv 45 rfl dX9_litShare_44 ?_
    refine p_cSI [.float (FP.fdiv (FP.i2f (M (o1 + 4) p1.toNatClampNeg)) (FP.i2f (M 1 2)))] [] (c_X9_bitsOfShare l hO M (FP.fdiv (FP.i2f (M (o1 + 4) p1.toNatClampNeg)) (FP.i2f (M 1 2)))) dX9_litShare_45 us_X9_332 rfl yk_X9_bitsOfShare ⟨by decide, by decide⟩ (Nat.le_of_ble_eq_true rfl) rfl 48 rfl ?_
    intro x2
    exact p_iretX rfl dX9_litShare_48
  · exact g_throwW hl0 hT 5 327 329 331 "no second has passed" xNm xf_5 xNm_ok wj_X9_327 wxi_5 (List.mem_of_getElem? (i := 7) rfl) xa_5 xg_5 dX9_litShare_18 dX9_litShare_21 dX9_litShare_22 dX9_litShare_25 dX9_litShare_28 (by decide) (Nat.le_of_ble_eq_true rfl) rfl
def fX9_soonest (M : Mem) (p0 : Int32) : Option (Nat ⊕ Int32) := clpx (fX9_found M p0) (fun o1 => grd (isJb o1) (clp (fX2_secondsToChange M o1 (M 1 2) (M 1 0)) (fun x2 => jn (fun (a3 : Int32) => clpx (fX9_need M a3 5) (fun u5 => some (.inr x2))) (fun k4 => if x2 = (-1) then (k4 0) else (k4 1)))))
set_option maxRecDepth 100000 in
set_option maxHeartbeats 4000000 in
theorem c_X9_soonest {Ω : Wd} (l : Launch) (hO : OkW Ω) (hX : LX Ω) (hl0 : l.stackTraces = false) (hT : ThrOk Ω)  (M : Mem) (p0 : Int32) : ∀ r, fX9_soonest M p0 = some r → Ct l yX9_soonest (.code yX9_soonest cX9_soonest 4 (some .int)) 8 161 Ω [.ref (wA Ω 0), .int p0] M ((cpIX M) r) := by
  refine ofG [(0, .ref (wA Ω 0)), (1, .int p0)] hO (by decide) rfl (Nat.le_of_ble_eq_true rfl) rfl ?_
  intro p e s m args below meth c
  unfold fX9_soonest
  refine g_aload_n 0 rfl rfl 1 rfl dX9_soonest_0 ?_
  refine g_iload_n 1 rfl rfl 2 rfl dX9_soonest_1 ?_
  refine p_xVR 0 [.int p0] [] (c_X9_found l hO hX hl0 hT M p0) (fun _ => rfl) dX9_soonest_2 uv_X9_115 rfl yk_X9_found ⟨by decide, by decide⟩ (lx_X hX).1 (lx_X hX).2 rfl (Nat.le_of_ble_eq_true rfl) rfl 5 rfl ?_
  intro o1
  refine g_grd (fun ho10 => ?_)
  have ho1 := isJb_of ho10
  refine g_astore_nA [(2, .ref (wA Ω o1)), (0, .ref (wA Ω 0)), (1, .int p0)] rfl 6 rfl dX9_soonest_5 (by decide) rfl ?_
  refine g_aload_n 0 rfl rfl 7 rfl dX9_soonest_6 ?_
  refine g_aload_n 1 rfl rfl 8 rfl dX9_soonest_7 ?_
  refine w_getR (lx_X hX) rfl in_X9 0 (by decide) wf_X9_12 1 rfl 11 rfl dX9_soonest_8 ?_
  refine w_get (lx_S hX isS_1) rfl in_X6 2 (by decide) wf_X9_130 rfl 14 rfl dX9_soonest_11 ?_
  refine g_aload_n 1 rfl rfl 15 rfl dX9_soonest_14 ?_
  refine w_getR (lx_X hX) rfl in_X9 0 (by decide) wf_X9_12 1 rfl 18 rfl dX9_soonest_15 ?_
  refine w_get (lx_S hX isS_1) rfl in_X6 0 (by decide) wf_X9_80 rfl 21 rfl dX9_soonest_18 ?_
  refine p_cVI o1 [.int (M 1 2), .int (M 1 0)] [] (c_X2_secondsToChange l hO hX ho1 M (M 1 2) (M 1 0)) dX9_soonest_21 uv_X9_305 rfl yk_X2_secondsToChange ⟨by decide, by decide⟩ (lx_J hX ho1).1 (lx_J hX ho1).2 rfl (Nat.le_of_ble_eq_true rfl) rfl 24 rfl ?_
  intro x2
  refine g_istore_nA [(3, .int x2), (2, .ref (wA Ω o1)), (0, .ref (wA Ω 0)), (1, .int p0)] rfl 25 rfl dX9_soonest_24 (by decide) rfl ?_
  refine g_iload_n 0 rfl rfl 26 rfl dX9_soonest_25 ?_
  refine g_iconst (-1) 27 rfl dX9_soonest_26 (by decide) ?_
  refine g_join 35 (fun a3 => [(3, .int x2)]) (fun a3 => [.int a3]) (fun a3 => M) ?_ ?_
  · intro a3
    refine g_iconst 5 36 rfl dX9_soonest_35 (by decide) ?_
    refine p_xSV [.int a3, .int 5] [] (c_X9_need l hO hl0 hT M a3 5) (fun _ => rfl) dX9_soonest_36 us_X9_68 rfl yk_X9_need ⟨by decide, by decide⟩ (Nat.le_of_ble_eq_true rfl) rfl 39 rfl ?_
    intro u5
    refine g_iload_n 0 rfl rfl 40 rfl dX9_soonest_39 ?_
    exact p_iretX rfl dX9_soonest_40
  · intro k4 hk4
    refine g_icmp_eq 34 (by decide) 30 rfl dX9_soonest_27 ?_ ?_
    · refine g_iconst 0 35 rfl dX9_soonest_34 (by decide) ?_
      refine g_sub [(3, .int x2)] [0] rfl ?_
      exact hk4 0
    · refine g_iconst 1 31 rfl dX9_soonest_30 (by decide) ?_
      refine g_goto 35 (by decide) dX9_soonest_31 ?_
      refine g_sub [(3, .int x2)] [0] rfl ?_
      exact hk4 1
def fX9_changeFault (M : Mem) (p0 : Int32) : Option Int32 := clpn (fX6_find M 1 p0) (some 1) (fun o1 => grd (isJb o1) (clp (fX2_isChangePlanned M o1) (fun x2 => if x2 = 0 then (clp (fX2_secondsToChange M o1 (M 1 2) (M 1 0)) (fun x3 => jn (fun (a4 : Int32) => some a4) (fun k5 => if x3 = (-1) then (k5 5) else (k5 0)))) else (some 3))))
set_option maxRecDepth 100000 in
set_option maxHeartbeats 4000000 in
theorem c_X9_changeFault {Ω : Wd} (l : Launch) (hO : OkW Ω) (hX : LX Ω)  (M : Mem) (p0 : Int32) : ∀ r, fX9_changeFault M p0 = some r → Ct l yX9_changeFault (.code yX9_changeFault cX9_changeFault 3 (some .int)) 5 121 Ω [.ref (wA Ω 0), .int p0] M ((cpI M) r) := by
  refine ofG [(0, .ref (wA Ω 0)), (1, .int p0)] hO (by decide) rfl (Nat.le_of_ble_eq_true rfl) rfl ?_
  intro p e s m args below meth c
  unfold fX9_changeFault
  refine g_aload_n 0 rfl rfl 1 rfl dX9_changeFault_0 ?_
  refine w_getR (lx_X hX) rfl in_X9 0 (by decide) wf_X9_12 1 rfl 4 rfl dX9_changeFault_1 ?_
  refine g_iload_n 1 rfl rfl 5 rfl dX9_changeFault_4 ?_
  refine p_cVN 1 [.int p0] [] (c_X6_find l hO hX isS_1 M p0) dX9_changeFault_5 uv_X9_287 rfl yk_X6_find ⟨by decide, by decide⟩ (lx_S hX isS_1).1 (lx_S hX isS_1).2 rfl (Nat.le_of_ble_eq_true rfl) rfl 8 rfl ?_ ?_
  · refine g_astore_nNA [(2, .null), (0, .ref (wA Ω 0)), (1, .int p0)] rfl 9 rfl dX9_changeFault_8 (by decide) rfl ?_
    refine g_aload_nN 0 rfl rfl 10 rfl dX9_changeFault_9 ?_
    refine g_ifnonnullN 13 rfl dX9_changeFault_10 ?_
    refine g_iconst 1 14 rfl dX9_changeFault_13 (by decide) ?_
    exact p_iret rfl dX9_changeFault_14
  · intro o1
    refine g_grd (fun ho10 => ?_)
    have ho1 := isJb_of ho10
    refine g_astore_nA [(2, .ref (wA Ω o1)), (0, .ref (wA Ω 0)), (1, .int p0)] rfl 9 rfl dX9_changeFault_8 (by decide) rfl ?_
    refine g_aload_n 0 rfl rfl 10 rfl dX9_changeFault_9 ?_
    refine g_ifnonnull 15 (by decide) dX9_changeFault_10 ?_
    refine g_aload_n 0 rfl rfl 16 rfl dX9_changeFault_15 ?_
    refine p_cVI o1 [] [] (c_X2_isChangePlanned l hO hX ho1 M) dX9_changeFault_16 uv_X9_194 rfl yk_X2_isChangePlanned ⟨by decide, by decide⟩ (lx_J hX ho1).1 (lx_J hX ho1).2 rfl (Nat.le_of_ble_eq_true rfl) rfl 19 rfl ?_
    intro x2
    refine g_if_eq 24 (by decide) 22 rfl dX9_changeFault_19 ?_ ?_
    · refine g_aload_n 0 rfl rfl 25 rfl dX9_changeFault_24 ?_
      refine g_aload_n 1 rfl rfl 26 rfl dX9_changeFault_25 ?_
      refine w_getR (lx_X hX) rfl in_X9 0 (by decide) wf_X9_12 1 rfl 29 rfl dX9_changeFault_26 ?_
      refine w_get (lx_S hX isS_1) rfl in_X6 2 (by decide) wf_X9_130 rfl 32 rfl dX9_changeFault_29 ?_
      refine g_aload_n 1 rfl rfl 33 rfl dX9_changeFault_32 ?_
      refine w_getR (lx_X hX) rfl in_X9 0 (by decide) wf_X9_12 1 rfl 36 rfl dX9_changeFault_33 ?_
      refine w_get (lx_S hX isS_1) rfl in_X6 0 (by decide) wf_X9_80 rfl 39 rfl dX9_changeFault_36 ?_
      refine p_cVI o1 [.int (M 1 2), .int (M 1 0)] [] (c_X2_secondsToChange l hO hX ho1 M (M 1 2) (M 1 0)) dX9_changeFault_39 uv_X9_305 rfl yk_X2_secondsToChange ⟨by decide, by decide⟩ (lx_J hX ho1).1 (lx_J hX ho1).2 rfl (Nat.le_of_ble_eq_true rfl) rfl 42 rfl ?_
      intro x3
      refine g_iconst (-1) 43 rfl dX9_changeFault_42 (by decide) ?_
      refine g_join 51 (fun a4 => []) (fun a4 => [.int a4]) (fun a4 => M) ?_ ?_
      · intro a4
        exact p_iret rfl dX9_changeFault_51
      · intro k5 hk5
        refine g_icmp_ne 50 (by decide) 46 rfl dX9_changeFault_43 ?_ ?_
        · refine g_iconst 5 47 rfl dX9_changeFault_46 (by decide) ?_
          refine g_goto 51 (by decide) dX9_changeFault_47 ?_
          refine g_sub [] [] rfl ?_
          exact hk5 5
        · refine g_iconst 0 51 rfl dX9_changeFault_50 (by decide) ?_
          refine g_sub [] [] rfl ?_
          exact hk5 0
    · refine g_iconst 3 23 rfl dX9_changeFault_22 (by decide) ?_
      exact p_iret rfl dX9_changeFault_23
def fX9_planChange (M : Mem) (p0 : Int32) : Option ((Nat ⊕ Int32) × Mem) := clpm M (fX9_found M p0) (fun o1 => grd (isJb o1) (clp (fX2_secondsToChange M o1 (M 1 2) (M 1 0)) (fun x2 => bnd (mset M o1 4 ((M 1 2) + x2)) (fun M3 => some (.inr x2, M3)))))
set_option maxRecDepth 100000 in
set_option maxHeartbeats 4000000 in
theorem c_X9_planChange {Ω : Wd} (l : Launch) (hO : OkW Ω) (hX : LX Ω) (hl0 : l.stackTraces = false) (hT : ThrOk Ω)  (M : Mem) (p0 : Int32) : ∀ r, fX9_planChange M p0 = some r → Ct l yX9_planChange (.code yX9_planChange cX9_planChange 4 (some .int)) 7 142 Ω [.ref (wA Ω 0), .int p0] M (cvIX r) := by
  refine ofG [(0, .ref (wA Ω 0)), (1, .int p0)] hO (by decide) rfl (Nat.le_of_ble_eq_true rfl) rfl ?_
  intro p e s m args below meth c
  unfold fX9_planChange
  refine g_aload_n 0 rfl rfl 1 rfl dX9_planChange_0 ?_
  refine g_iload_n 1 rfl rfl 2 rfl dX9_planChange_1 ?_
  refine q_xVR 0 [.int p0] [] (c_X9_found l hO hX hl0 hT M p0) (fun _ _ => rfl) dX9_planChange_2 uv_X9_115 rfl yk_X9_found ⟨by decide, by decide⟩ (lx_X hX).1 (lx_X hX).2 rfl (Nat.le_of_ble_eq_true rfl) rfl 5 rfl ?_
  intro o1
  refine g_grd (fun ho10 => ?_)
  have ho1 := isJb_of ho10
  refine g_astore_nA [(2, .ref (wA Ω o1)), (0, .ref (wA Ω 0)), (1, .int p0)] rfl 6 rfl dX9_planChange_5 (by decide) rfl ?_
  refine g_aload_n 0 rfl rfl 7 rfl dX9_planChange_6 ?_
  refine g_aload_n 1 rfl rfl 8 rfl dX9_planChange_7 ?_
  refine w_getR (lx_X hX) rfl in_X9 0 (by decide) wf_X9_12 1 rfl 11 rfl dX9_planChange_8 ?_
  refine w_get (lx_S hX isS_1) rfl in_X6 2 (by decide) wf_X9_130 rfl 14 rfl dX9_planChange_11 ?_
  refine g_aload_n 1 rfl rfl 15 rfl dX9_planChange_14 ?_
  refine w_getR (lx_X hX) rfl in_X9 0 (by decide) wf_X9_12 1 rfl 18 rfl dX9_planChange_15 ?_
  refine w_get (lx_S hX isS_1) rfl in_X6 0 (by decide) wf_X9_80 rfl 21 rfl dX9_planChange_18 ?_
  refine p_cVI o1 [.int (M 1 2), .int (M 1 0)] [] (c_X2_secondsToChange l hO hX ho1 M (M 1 2) (M 1 0)) dX9_planChange_21 uv_X9_305 rfl yk_X2_secondsToChange ⟨by decide, by decide⟩ (lx_J hX ho1).1 (lx_J hX ho1).2 rfl (Nat.le_of_ble_eq_true rfl) rfl 24 rfl ?_
  intro x2
  refine g_istore_nA [(3, .int x2), (2, .ref (wA Ω o1)), (0, .ref (wA Ω 0)), (1, .int p0)] rfl 25 rfl dX9_planChange_24 (by decide) rfl ?_
  refine g_aload_n 1 rfl rfl 26 rfl dX9_planChange_25 ?_
  refine g_aload_n 2 rfl rfl 27 rfl dX9_planChange_26 ?_
  refine w_getR (lx_X hX) rfl in_X9 0 (by decide) wf_X9_12 1 rfl 30 rfl dX9_planChange_27 ?_
  refine w_get (lx_S hX isS_1) rfl in_X6 2 (by decide) wf_X9_130 rfl 33 rfl dX9_planChange_30 ?_
  refine g_iload_n 0 rfl rfl 34 rfl dX9_planChange_33 ?_
  refine g_iadd 35 rfl dX9_planChange_34 ?_
  refine w_put (lx_J hX ho1) rfl in_X2 4 (by decide) wf_X9_139 tyX2 tyX2_ok nmX2 rfl rfl rfl rfl 38 rfl dX9_planChange_35 ?_
  intro M3
  refine g_iload_n 0 rfl rfl 39 rfl dX9_planChange_38 ?_
  exact g_iretX rfl dX9_planChange_39
def fX9_commandFault (M : Mem) (p0 : Int32) : Option (Int32 × Mem) := grd (inb p0 10) (if M 475 p0.toNatClampNeg < 0 then (clp (fX5_numberAt M p0 0) (fun x2 => clp (fX5_numberAt M p0 1) (fun x3 => clp (fX5_numberAt M p0 2) (fun x4 => some (5, M))))) else grd (decide ((M 475 p0.toNatClampNeg).toNatClampNeg < 6)) (clp (fX5_numberAt M p0 0) (fun x5 => clp (fX5_numberAt M p0 1) (fun x6 => clp (fX5_numberAt M p0 2) (fun x7 => clp (some (nI ((M 475 p0.toNatClampNeg).toNatClampNeg))) (fun x8 => grd (inb x8 6) (if smw x8.toNatClampNeg = 1 then (clp (fX5_numberAt M p0 3) (fun x14 => clp (fX5_numberAt M p0 4) (fun x15 => cl (fX9_greenFault M x5 x6 x7 x14 x15) (fun x16 M17 => some (x16, M17))))) else (if smw x8.toNatClampNeg = 2 then (clp (fX9_offsetFault M x5 x6) (fun x13 => some (x13, M))) else (if smw x8.toNatClampNeg = 3 then (clp (fX9_pressFault M x5 x6) (fun x12 => some (x12, M))) else (if smw x8.toNatClampNeg = 4 then (clp (fX9_runFault M x5) (fun x11 => some (x11, M))) else (if smw x8.toNatClampNeg = 5 then (clp (fX9_changeFault M x5) (fun x10 => some (x10, M))) else (clp (fX9_roadFault M x5 x6 x7) (fun x9 => some (x9, M))))))))))))))
set_option maxRecDepth 100000 in
set_option maxHeartbeats 4000000 in
theorem c_X9_commandFault {Ω : Wd} (l : Launch) (hO : OkW Ω) (hX : LX Ω) {K V : Nat → Nat} (hK : StrOk Ω K V) {E : Nat → Nat} {t0 t1 : Nat} (hE : EnOk Ω E K t0 t1) (hW : WA Ω E)  (M : Mem) (p0 : Int32) : ∀ r, fX9_commandFault M p0 = some r → Ct l yX9_commandFault (.code yX9_commandFault cX9_commandFault 6 (some .int)) 6 143 Ω [.ref (wA Ω 0), .int p0] M (cvI r) := by
  refine ofG [(0, .ref (wA Ω 0)), (1, .int p0)] hO (by decide) rfl (Nat.le_of_ble_eq_true rfl) rfl ?_
  intro p e s m args below meth c
  unfold fX9_commandFault
  refine g_aload_n 0 rfl rfl 1 rfl dX9_commandFault_0 ?_
  refine w_getR (lx_X hX) rfl in_X9 6 (by decide) wf_X9_46 472 rfl 4 rfl dX9_commandFault_1 ?_
  refine w_getR (lx_C hX) rfl in_X5 6 (by decide) wf_X9_394 475 rfl 7 rfl dX9_commandFault_4 ?_
  refine g_iload_n 1 rfl rfl 8 rfl dX9_commandFault_7 ?_
  refine e_wld hW 9 rfl dX9_commandFault_8 ?_ ?_
  · refine g_astore_nNA [(2, .null), (0, .ref (wA Ω 0)), (1, .int p0)] rfl 10 rfl dX9_commandFault_9 (by decide) rfl ?_
    refine g_aload_n 1 rfl rfl 11 rfl dX9_commandFault_10 ?_
    refine w_getR (lx_X hX) rfl in_X9 6 (by decide) wf_X9_46 472 rfl 14 rfl dX9_commandFault_11 ?_
    refine g_iload_n 2 rfl rfl 15 rfl dX9_commandFault_14 ?_
    refine g_iconst 0 16 rfl dX9_commandFault_15 (by decide) ?_
    refine p_cVI 472 [.int p0, .int 0] [] (c_X5_numberAt l hO hX M p0 0) dX9_commandFault_16 uv_X9_398 rfl yk_X5_numberAt ⟨by decide, by decide⟩ (lx_C hX).1 (lx_C hX).2 rfl (Nat.le_of_ble_eq_true rfl) rfl 19 rfl ?_
    intro x2
    refine g_istore_nA [(3, .int x2), (2, .null), (0, .ref (wA Ω 0)), (1, .int p0)] rfl 20 rfl dX9_commandFault_19 (by decide) rfl ?_
    refine g_aload_n 2 rfl rfl 21 rfl dX9_commandFault_20 ?_
    refine w_getR (lx_X hX) rfl in_X9 6 (by decide) wf_X9_46 472 rfl 24 rfl dX9_commandFault_21 ?_
    refine g_iload_n 3 rfl rfl 25 rfl dX9_commandFault_24 ?_
    refine g_iconst 1 26 rfl dX9_commandFault_25 (by decide) ?_
    refine p_cVI 472 [.int p0, .int 1] [] (c_X5_numberAt l hO hX M p0 1) dX9_commandFault_26 uv_X9_398 rfl yk_X5_numberAt ⟨by decide, by decide⟩ (lx_C hX).1 (lx_C hX).2 rfl (Nat.le_of_ble_eq_true rfl) rfl 29 rfl ?_
    intro x3
    refine g_istoreA [(4, .int x3), (3, .int x2), (2, .null), (0, .ref (wA Ω 0)), (1, .int p0)] 31 rfl dX9_commandFault_29 (by decide) rfl ?_
    refine g_aload_n 3 rfl rfl 32 rfl dX9_commandFault_31 ?_
    refine w_getR (lx_X hX) rfl in_X9 6 (by decide) wf_X9_46 472 rfl 35 rfl dX9_commandFault_32 ?_
    refine g_iload_n 4 rfl rfl 36 rfl dX9_commandFault_35 ?_
    refine g_iconst 2 37 rfl dX9_commandFault_36 (by decide) ?_
    refine p_cVI 472 [.int p0, .int 2] [] (c_X5_numberAt l hO hX M p0 2) dX9_commandFault_37 uv_X9_398 rfl yk_X5_numberAt ⟨by decide, by decide⟩ (lx_C hX).1 (lx_C hX).2 rfl (Nat.le_of_ble_eq_true rfl) rfl 40 rfl ?_
    intro x4
    refine g_istoreA [(5, .int x4), (4, .int x3), (3, .int x2), (2, .null), (0, .ref (wA Ω 0)), (1, .int p0)] 42 rfl dX9_commandFault_40 (by decide) rfl ?_
    refine g_aload_nN 3 rfl rfl 43 rfl dX9_commandFault_42 ?_
    refine g_ifnonnullN 46 rfl dX9_commandFault_43 ?_
    refine g_iconst 5 47 rfl dX9_commandFault_46 (by decide) ?_
    exact g_iret rfl dX9_commandFault_47
  · refine g_grd (fun hn10 => ?_)
    have hn1 := of_decide_eq_true hn10
    refine g_astore_nA [(2, .ref (E ((M 475 p0.toNatClampNeg).toNatClampNeg))), (0, .ref (wA Ω 0)), (1, .int p0)] rfl 10 rfl dX9_commandFault_9 (by decide) rfl ?_
    refine g_aload_n 1 rfl rfl 11 rfl dX9_commandFault_10 ?_
    refine w_getR (lx_X hX) rfl in_X9 6 (by decide) wf_X9_46 472 rfl 14 rfl dX9_commandFault_11 ?_
    refine g_iload_n 2 rfl rfl 15 rfl dX9_commandFault_14 ?_
    refine g_iconst 0 16 rfl dX9_commandFault_15 (by decide) ?_
    refine p_cVI 472 [.int p0, .int 0] [] (c_X5_numberAt l hO hX M p0 0) dX9_commandFault_16 uv_X9_398 rfl yk_X5_numberAt ⟨by decide, by decide⟩ (lx_C hX).1 (lx_C hX).2 rfl (Nat.le_of_ble_eq_true rfl) rfl 19 rfl ?_
    intro x5
    refine g_istore_nA [(3, .int x5), (2, .ref (E ((M 475 p0.toNatClampNeg).toNatClampNeg))), (0, .ref (wA Ω 0)), (1, .int p0)] rfl 20 rfl dX9_commandFault_19 (by decide) rfl ?_
    refine g_aload_n 2 rfl rfl 21 rfl dX9_commandFault_20 ?_
    refine w_getR (lx_X hX) rfl in_X9 6 (by decide) wf_X9_46 472 rfl 24 rfl dX9_commandFault_21 ?_
    refine g_iload_n 3 rfl rfl 25 rfl dX9_commandFault_24 ?_
    refine g_iconst 1 26 rfl dX9_commandFault_25 (by decide) ?_
    refine p_cVI 472 [.int p0, .int 1] [] (c_X5_numberAt l hO hX M p0 1) dX9_commandFault_26 uv_X9_398 rfl yk_X5_numberAt ⟨by decide, by decide⟩ (lx_C hX).1 (lx_C hX).2 rfl (Nat.le_of_ble_eq_true rfl) rfl 29 rfl ?_
    intro x6
    refine g_istoreA [(4, .int x6), (3, .int x5), (2, .ref (E ((M 475 p0.toNatClampNeg).toNatClampNeg))), (0, .ref (wA Ω 0)), (1, .int p0)] 31 rfl dX9_commandFault_29 (by decide) rfl ?_
    refine g_aload_n 3 rfl rfl 32 rfl dX9_commandFault_31 ?_
    refine w_getR (lx_X hX) rfl in_X9 6 (by decide) wf_X9_46 472 rfl 35 rfl dX9_commandFault_32 ?_
    refine g_iload_n 4 rfl rfl 36 rfl dX9_commandFault_35 ?_
    refine g_iconst 2 37 rfl dX9_commandFault_36 (by decide) ?_
    refine p_cVI 472 [.int p0, .int 2] [] (c_X5_numberAt l hO hX M p0 2) dX9_commandFault_37 uv_X9_398 rfl yk_X5_numberAt ⟨by decide, by decide⟩ (lx_C hX).1 (lx_C hX).2 rfl (Nat.le_of_ble_eq_true rfl) rfl 40 rfl ?_
    intro x7
    refine g_istoreA [(5, .int x7), (4, .int x6), (3, .int x5), (2, .ref (E ((M 475 p0.toNatClampNeg).toNatClampNeg))), (0, .ref (wA Ω 0)), (1, .int p0)] 42 rfl dX9_commandFault_40 (by decide) rfl ?_
    refine g_aload_n 3 rfl rfl 43 rfl dX9_commandFault_42 ?_
    refine g_ifnonnull 48 (by decide) dX9_commandFault_43 ?_
    refine s_gets (fun U hU => (hE U hU).2.2.2.1) wf_X9_401 rfl 51 rfl dX9_commandFault_48 ?_
    refine g_aload_n 3 rfl rfl 52 rfl dX9_commandFault_51 ?_
    refine e_ord hE ((M 475 p0.toNatClampNeg).toNatClampNeg) hn1 [.ref t1] rfl dX9_commandFault_52 ⟨by decide, by decide⟩ (Nat.le_of_ble_eq_true rfl) rfl 55 rfl ?_
    intro x8
    refine e_ti (fun U hU => (hE U hU).2.2.2.2) 56 rfl dX9_commandFault_55 ?_
    refine g_case ?_ ?_
    · intro h56_0
      refine g_tin (off := 36) 92 (by rw [h56_0]; decide) (by rw [h56_0]; decide) (by rw [h56_0]; rfl) (by decide) dX9_commandFault_56 ?_
      refine g_aload_n 4 rfl rfl 93 rfl dX9_commandFault_92 ?_
      refine g_iload_n 2 rfl rfl 94 rfl dX9_commandFault_93 ?_
      refine g_iload 1 rfl 96 rfl dX9_commandFault_94 ?_
      refine g_iload 0 rfl 98 rfl dX9_commandFault_96 ?_
      refine g_aload_n 4 rfl rfl 99 rfl dX9_commandFault_98 ?_
      refine w_getR (lx_X hX) rfl in_X9 6 (by decide) wf_X9_46 472 rfl 102 rfl dX9_commandFault_99 ?_
      refine g_iload_n 5 rfl rfl 103 rfl dX9_commandFault_102 ?_
      refine g_iconst 3 104 rfl dX9_commandFault_103 (by decide) ?_
      refine p_cVI 472 [.int p0, .int 3] [.int x7, .int x6, .int x5, .ref (wA Ω 0)] (c_X5_numberAt l hO hX M p0 3) dX9_commandFault_104 uv_X9_398 rfl yk_X5_numberAt ⟨by decide, by decide⟩ (lx_C hX).1 (lx_C hX).2 rfl (Nat.le_of_ble_eq_true rfl) rfl 107 rfl ?_
      intro x14
      refine g_aload_n 4 rfl rfl 108 rfl dX9_commandFault_107 ?_
      refine w_getR (lx_X hX) rfl in_X9 6 (by decide) wf_X9_46 472 rfl 111 rfl dX9_commandFault_108 ?_
      refine g_iload_n 5 rfl rfl 112 rfl dX9_commandFault_111 ?_
      refine g_iconst 4 113 rfl dX9_commandFault_112 (by decide) ?_
      refine p_cVI 472 [.int p0, .int 4] [.int x14, .int x7, .int x6, .int x5, .ref (wA Ω 0)] (c_X5_numberAt l hO hX M p0 4) dX9_commandFault_113 uv_X9_398 rfl yk_X5_numberAt ⟨by decide, by decide⟩ (lx_C hX).1 (lx_C hX).2 rfl (Nat.le_of_ble_eq_true rfl) rfl 116 rfl ?_
      intro x15
      refine g_cVI 0 [.int x5, .int x6, .int x7, .int x14, .int x15] [] (c_X9_greenFault l hO hX M x5 x6 x7 x14 x15) dX9_commandFault_116 uv_X9_216 rfl yk_X9_greenFault ⟨by decide, by decide⟩ (lx_X hX).1 (lx_X hX).2 rfl (Nat.le_of_ble_eq_true rfl) rfl 119 rfl ?_
      intro x16 M17
      exact g_iret rfl dX9_commandFault_119
    · intro h56_0
      refine g_case ?_ ?_
      · intro h56_1
        refine g_tin (off := 64) 120 (by rw [h56_1]; decide) (by rw [h56_1]; decide) (by rw [h56_1]; rfl) (by decide) dX9_commandFault_56 ?_
        refine g_aload_n 4 rfl rfl 121 rfl dX9_commandFault_120 ?_
        refine g_iload_n 2 rfl rfl 122 rfl dX9_commandFault_121 ?_
        refine g_iload 1 rfl 124 rfl dX9_commandFault_122 ?_
        refine p_cVI 0 [.int x5, .int x6] [] (c_X9_offsetFault l hO hX M x5 x6) dX9_commandFault_124 uv_X9_97 rfl yk_X9_offsetFault ⟨by decide, by decide⟩ (lx_X hX).1 (lx_X hX).2 rfl (Nat.le_of_ble_eq_true rfl) rfl 127 rfl ?_
        intro x13
        exact g_iret rfl dX9_commandFault_127
      · intro h56_1
        refine g_case ?_ ?_
        · intro h56_2
          refine g_tin (off := 72) 128 (by rw [h56_2]; decide) (by rw [h56_2]; decide) (by rw [h56_2]; rfl) (by decide) dX9_commandFault_56 ?_
          refine g_aload_n 4 rfl rfl 129 rfl dX9_commandFault_128 ?_
          refine g_iload_n 2 rfl rfl 130 rfl dX9_commandFault_129 ?_
          refine g_iload 1 rfl 132 rfl dX9_commandFault_130 ?_
          refine p_cVI 0 [.int x5, .int x6] [] (c_X9_pressFault l hO hX M x5 x6) dX9_commandFault_132 uv_X9_293 rfl yk_X9_pressFault ⟨by decide, by decide⟩ (lx_X hX).1 (lx_X hX).2 rfl (Nat.le_of_ble_eq_true rfl) rfl 135 rfl ?_
          intro x12
          exact g_iret rfl dX9_commandFault_135
        · intro h56_2
          refine g_case ?_ ?_
          · intro h56_3
            refine g_tin (off := 80) 136 (by rw [h56_3]; decide) (by rw [h56_3]; decide) (by rw [h56_3]; rfl) (by decide) dX9_commandFault_56 ?_
            refine g_aload_n 4 rfl rfl 137 rfl dX9_commandFault_136 ?_
            refine g_iload_n 2 rfl rfl 138 rfl dX9_commandFault_137 ?_
            refine p_cVI 0 [.int x5] [] (c_X9_runFault l hO hX M x5) dX9_commandFault_138 uv_X9_299 rfl yk_X9_runFault ⟨by decide, by decide⟩ (lx_X hX).1 (lx_X hX).2 rfl (Nat.le_of_ble_eq_true rfl) rfl 141 rfl ?_
            intro x11
            exact g_iret rfl dX9_commandFault_141
          · intro h56_3
            refine g_case ?_ ?_
            · intro h56_4
              refine g_tin (off := 86) 142 (by rw [h56_4]; decide) (by rw [h56_4]; decide) (by rw [h56_4]; rfl) (by decide) dX9_commandFault_56 ?_
              refine g_aload_n 4 rfl rfl 143 rfl dX9_commandFault_142 ?_
              refine g_iload_n 2 rfl rfl 144 rfl dX9_commandFault_143 ?_
              refine p_cVI 0 [.int x5] [] (c_X9_changeFault l hO hX M x5) dX9_commandFault_144 uv_X9_308 rfl yk_X9_changeFault ⟨by decide, by decide⟩ (lx_X hX).1 (lx_X hX).2 rfl (Nat.le_of_ble_eq_true rfl) rfl 147 rfl ?_
              intro x10
              exact g_iret rfl dX9_commandFault_147
            · intro h56_4
              refine g_tout 148 (ts_out (fun z h1 h2 e => by have q0 := ts_ne (z := 1) h56_0 (by decide); have q1 := ts_ne (z := 2) h56_1 (by decide); have q2 := ts_ne (z := 3) h56_2 (by decide); have q3 := ts_ne (z := 4) h56_3 (by decide); have q4 := ts_ne (z := 5) h56_4 (by decide); omega)) (by decide) dX9_commandFault_56 ?_
              refine g_aload_n 4 rfl rfl 149 rfl dX9_commandFault_148 ?_
              refine g_iload_n 2 rfl rfl 150 rfl dX9_commandFault_149 ?_
              refine g_iload 1 rfl 152 rfl dX9_commandFault_150 ?_
              refine g_iload 0 rfl 154 rfl dX9_commandFault_152 ?_
              refine p_cVI 0 [.int x5, .int x6, .int x7] [] (c_X9_roadFault l hO hX M x5 x6 x7) dX9_commandFault_154 uv_X9_108 rfl yk_X9_roadFault ⟨by decide, by decide⟩ (lx_X hX).1 (lx_X hX).2 rfl (Nat.le_of_ble_eq_true rfl) rfl 157 rfl ?_
              intro x9
              exact g_iret rfl dX9_commandFault_157
def fX9_carryOut (M : Mem) (p0 : Int32) : Option ((Nat ⊕ Unit) × Mem) := grd (inb p0 10) (if M 475 p0.toNatClampNeg < 0 then (clp (fX5_numberAt M p0 0) (fun x2 => clp (fX5_numberAt M p0 1) (fun x3 => clp (fX5_numberAt M p0 2) (fun x4 => some (.inr (), M))))) else grd (decide ((M 475 p0.toNatClampNeg).toNatClampNeg < 6)) (clp (fX5_numberAt M p0 0) (fun x5 => clp (fX5_numberAt M p0 1) (fun x6 => clp (fX5_numberAt M p0 2) (fun x7 => clp (some (nI ((M 475 p0.toNatClampNeg).toNatClampNeg))) (fun x8 => grd (inb x8 6) (jn (fun (a9 : Mem) => some (.inr (), a9)) (fun k10 => if smw x8.toNatClampNeg = 1 then (clp (fX5_numberAt M p0 3) (fun x21 => clp (fX5_numberAt M p0 4) (fun x22 => clx (fX9_giveGreen M x5 x6 x7 x21 x22) (fun x23 M24 => k10 M24)))) else (if smw x8.toNatClampNeg = 2 then (clx (fX9_setOffset M x5 x6) (fun x19 M20 => k10 M20)) else (if smw x8.toNatClampNeg = 3 then (clx (fX9_makeRequest M x5 x6) (fun x17 M18 => k10 M18)) else (if smw x8.toNatClampNeg = 4 then (cl (fX6_letPass M 1 x5) (fun x15 M16 => k10 M16)) else (if smw x8.toNatClampNeg = 5 then (clx (fX9_planChange M x5) (fun x13 M14 => k10 M14)) else (clx (fX9_setRoadGroups M x5 x6 x7) (fun x11 M12 => k10 M12))))))))))))))
set_option maxRecDepth 100000 in
set_option maxHeartbeats 4000000 in
theorem c_X9_carryOut {Ω : Wd} (l : Launch) (hO : OkW Ω) (hX : LX Ω) (hl0 : l.stackTraces = false) (hT : ThrOk Ω) {K V : Nat → Nat} (hK : StrOk Ω K V) {E : Nat → Nat} {t0 t1 : Nat} (hE : EnOk Ω E K t0 t1) (hW : WA Ω E)  (M : Mem) (p0 : Int32) : ∀ r, fX9_carryOut M p0 = some r → Ct l yX9_carryOut (.code yX9_carryOut cX9_carryOut 6 none) 8 168 Ω [.ref (wA Ω 0), .int p0] M (cvVX r) := by
  refine ofG [(0, .ref (wA Ω 0)), (1, .int p0)] hO (by decide) rfl (Nat.le_of_ble_eq_true rfl) rfl ?_
  intro p e s m args below meth c
  unfold fX9_carryOut
  refine g_aload_n 0 rfl rfl 1 rfl dX9_carryOut_0 ?_
  refine w_getR (lx_X hX) rfl in_X9 6 (by decide) wf_X9_46 472 rfl 4 rfl dX9_carryOut_1 ?_
  refine w_getR (lx_C hX) rfl in_X5 6 (by decide) wf_X9_394 475 rfl 7 rfl dX9_carryOut_4 ?_
  refine g_iload_n 1 rfl rfl 8 rfl dX9_carryOut_7 ?_
  refine e_wld hW 9 rfl dX9_carryOut_8 ?_ ?_
  · refine g_astore_nNA [(2, .null), (0, .ref (wA Ω 0)), (1, .int p0)] rfl 10 rfl dX9_carryOut_9 (by decide) rfl ?_
    refine g_aload_n 1 rfl rfl 11 rfl dX9_carryOut_10 ?_
    refine w_getR (lx_X hX) rfl in_X9 6 (by decide) wf_X9_46 472 rfl 14 rfl dX9_carryOut_11 ?_
    refine g_iload_n 2 rfl rfl 15 rfl dX9_carryOut_14 ?_
    refine g_iconst 0 16 rfl dX9_carryOut_15 (by decide) ?_
    refine p_cVI 472 [.int p0, .int 0] [] (c_X5_numberAt l hO hX M p0 0) dX9_carryOut_16 uv_X9_398 rfl yk_X5_numberAt ⟨by decide, by decide⟩ (lx_C hX).1 (lx_C hX).2 rfl (Nat.le_of_ble_eq_true rfl) rfl 19 rfl ?_
    intro x2
    refine g_istore_nA [(3, .int x2), (2, .null), (0, .ref (wA Ω 0)), (1, .int p0)] rfl 20 rfl dX9_carryOut_19 (by decide) rfl ?_
    refine g_aload_n 2 rfl rfl 21 rfl dX9_carryOut_20 ?_
    refine w_getR (lx_X hX) rfl in_X9 6 (by decide) wf_X9_46 472 rfl 24 rfl dX9_carryOut_21 ?_
    refine g_iload_n 3 rfl rfl 25 rfl dX9_carryOut_24 ?_
    refine g_iconst 1 26 rfl dX9_carryOut_25 (by decide) ?_
    refine p_cVI 472 [.int p0, .int 1] [] (c_X5_numberAt l hO hX M p0 1) dX9_carryOut_26 uv_X9_398 rfl yk_X5_numberAt ⟨by decide, by decide⟩ (lx_C hX).1 (lx_C hX).2 rfl (Nat.le_of_ble_eq_true rfl) rfl 29 rfl ?_
    intro x3
    refine g_istoreA [(4, .int x3), (3, .int x2), (2, .null), (0, .ref (wA Ω 0)), (1, .int p0)] 31 rfl dX9_carryOut_29 (by decide) rfl ?_
    refine g_aload_n 3 rfl rfl 32 rfl dX9_carryOut_31 ?_
    refine w_getR (lx_X hX) rfl in_X9 6 (by decide) wf_X9_46 472 rfl 35 rfl dX9_carryOut_32 ?_
    refine g_iload_n 4 rfl rfl 36 rfl dX9_carryOut_35 ?_
    refine g_iconst 2 37 rfl dX9_carryOut_36 (by decide) ?_
    refine p_cVI 472 [.int p0, .int 2] [] (c_X5_numberAt l hO hX M p0 2) dX9_carryOut_37 uv_X9_398 rfl yk_X5_numberAt ⟨by decide, by decide⟩ (lx_C hX).1 (lx_C hX).2 rfl (Nat.le_of_ble_eq_true rfl) rfl 40 rfl ?_
    intro x4
    refine g_istoreA [(5, .int x4), (4, .int x3), (3, .int x2), (2, .null), (0, .ref (wA Ω 0)), (1, .int p0)] 42 rfl dX9_carryOut_40 (by decide) rfl ?_
    refine g_aload_nN 3 rfl rfl 43 rfl dX9_carryOut_42 ?_
    refine g_ifnonnullN 46 rfl dX9_carryOut_43 ?_
    exact g_vretX rfl dX9_carryOut_46
  · refine g_grd (fun hn10 => ?_)
    have hn1 := of_decide_eq_true hn10
    refine g_astore_nA [(2, .ref (E ((M 475 p0.toNatClampNeg).toNatClampNeg))), (0, .ref (wA Ω 0)), (1, .int p0)] rfl 10 rfl dX9_carryOut_9 (by decide) rfl ?_
    refine g_aload_n 1 rfl rfl 11 rfl dX9_carryOut_10 ?_
    refine w_getR (lx_X hX) rfl in_X9 6 (by decide) wf_X9_46 472 rfl 14 rfl dX9_carryOut_11 ?_
    refine g_iload_n 2 rfl rfl 15 rfl dX9_carryOut_14 ?_
    refine g_iconst 0 16 rfl dX9_carryOut_15 (by decide) ?_
    refine p_cVI 472 [.int p0, .int 0] [] (c_X5_numberAt l hO hX M p0 0) dX9_carryOut_16 uv_X9_398 rfl yk_X5_numberAt ⟨by decide, by decide⟩ (lx_C hX).1 (lx_C hX).2 rfl (Nat.le_of_ble_eq_true rfl) rfl 19 rfl ?_
    intro x5
    refine g_istore_nA [(3, .int x5), (2, .ref (E ((M 475 p0.toNatClampNeg).toNatClampNeg))), (0, .ref (wA Ω 0)), (1, .int p0)] rfl 20 rfl dX9_carryOut_19 (by decide) rfl ?_
    refine g_aload_n 2 rfl rfl 21 rfl dX9_carryOut_20 ?_
    refine w_getR (lx_X hX) rfl in_X9 6 (by decide) wf_X9_46 472 rfl 24 rfl dX9_carryOut_21 ?_
    refine g_iload_n 3 rfl rfl 25 rfl dX9_carryOut_24 ?_
    refine g_iconst 1 26 rfl dX9_carryOut_25 (by decide) ?_
    refine p_cVI 472 [.int p0, .int 1] [] (c_X5_numberAt l hO hX M p0 1) dX9_carryOut_26 uv_X9_398 rfl yk_X5_numberAt ⟨by decide, by decide⟩ (lx_C hX).1 (lx_C hX).2 rfl (Nat.le_of_ble_eq_true rfl) rfl 29 rfl ?_
    intro x6
    refine g_istoreA [(4, .int x6), (3, .int x5), (2, .ref (E ((M 475 p0.toNatClampNeg).toNatClampNeg))), (0, .ref (wA Ω 0)), (1, .int p0)] 31 rfl dX9_carryOut_29 (by decide) rfl ?_
    refine g_aload_n 3 rfl rfl 32 rfl dX9_carryOut_31 ?_
    refine w_getR (lx_X hX) rfl in_X9 6 (by decide) wf_X9_46 472 rfl 35 rfl dX9_carryOut_32 ?_
    refine g_iload_n 4 rfl rfl 36 rfl dX9_carryOut_35 ?_
    refine g_iconst 2 37 rfl dX9_carryOut_36 (by decide) ?_
    refine p_cVI 472 [.int p0, .int 2] [] (c_X5_numberAt l hO hX M p0 2) dX9_carryOut_37 uv_X9_398 rfl yk_X5_numberAt ⟨by decide, by decide⟩ (lx_C hX).1 (lx_C hX).2 rfl (Nat.le_of_ble_eq_true rfl) rfl 40 rfl ?_
    intro x7
    refine g_istoreA [(5, .int x7), (4, .int x6), (3, .int x5), (2, .ref (E ((M 475 p0.toNatClampNeg).toNatClampNeg))), (0, .ref (wA Ω 0)), (1, .int p0)] 42 rfl dX9_carryOut_40 (by decide) rfl ?_
    refine g_aload_n 3 rfl rfl 43 rfl dX9_carryOut_42 ?_
    refine g_ifnonnull 47 (by decide) dX9_carryOut_43 ?_
    refine s_gets (fun U hU => (hE U hU).2.2.2.1) wf_X9_401 rfl 50 rfl dX9_carryOut_47 ?_
    refine g_aload_n 3 rfl rfl 51 rfl dX9_carryOut_50 ?_
    refine e_ord hE ((M 475 p0.toNatClampNeg).toNatClampNeg) hn1 [.ref t1] rfl dX9_carryOut_51 ⟨by decide, by decide⟩ (Nat.le_of_ble_eq_true rfl) rfl 54 rfl ?_
    intro x8
    refine e_ti (fun U hU => (hE U hU).2.2.2.2) 55 rfl dX9_carryOut_54 ?_
    refine g_join 172 (fun a9 => []) (fun a9 => []) (fun a9 => a9) ?_ ?_
    · intro a9
      exact g_vretX rfl dX9_carryOut_172
    · intro k10 hk10
      refine g_case ?_ ?_
      · intro h55_0
        refine g_tin (off := 33) 88 (by rw [h55_0]; decide) (by rw [h55_0]; decide) (by rw [h55_0]; rfl) (by decide) dX9_carryOut_55 ?_
        refine g_aload_n 4 rfl rfl 89 rfl dX9_carryOut_88 ?_
        refine g_iload_n 2 rfl rfl 90 rfl dX9_carryOut_89 ?_
        refine g_iload 1 rfl 92 rfl dX9_carryOut_90 ?_
        refine g_iload 0 rfl 94 rfl dX9_carryOut_92 ?_
        refine g_aload_n 4 rfl rfl 95 rfl dX9_carryOut_94 ?_
        refine w_getR (lx_X hX) rfl in_X9 6 (by decide) wf_X9_46 472 rfl 98 rfl dX9_carryOut_95 ?_
        refine g_iload_n 5 rfl rfl 99 rfl dX9_carryOut_98 ?_
        refine g_iconst 3 100 rfl dX9_carryOut_99 (by decide) ?_
        refine p_cVI 472 [.int p0, .int 3] [.int x7, .int x6, .int x5, .ref (wA Ω 0)] (c_X5_numberAt l hO hX M p0 3) dX9_carryOut_100 uv_X9_398 rfl yk_X5_numberAt ⟨by decide, by decide⟩ (lx_C hX).1 (lx_C hX).2 rfl (Nat.le_of_ble_eq_true rfl) rfl 103 rfl ?_
        intro x21
        refine g_aload_n 4 rfl rfl 104 rfl dX9_carryOut_103 ?_
        refine w_getR (lx_X hX) rfl in_X9 6 (by decide) wf_X9_46 472 rfl 107 rfl dX9_carryOut_104 ?_
        refine g_iload_n 5 rfl rfl 108 rfl dX9_carryOut_107 ?_
        refine g_iconst 4 109 rfl dX9_carryOut_108 (by decide) ?_
        refine p_cVI 472 [.int p0, .int 4] [.int x21, .int x7, .int x6, .int x5, .ref (wA Ω 0)] (c_X5_numberAt l hO hX M p0 4) dX9_carryOut_109 uv_X9_398 rfl yk_X5_numberAt ⟨by decide, by decide⟩ (lx_C hX).1 (lx_C hX).2 rfl (Nat.le_of_ble_eq_true rfl) rfl 112 rfl ?_
        intro x22
        refine g_xVI 0 [.int x5, .int x6, .int x7, .int x21, .int x22] [] (c_X9_giveGreen l hO hX hl0 hT M x5 x6 x7 x21 x22) (fun _ _ => rfl) dX9_carryOut_112 uv_X9_219 rfl yk_X9_giveGreen ⟨by decide, by decide⟩ (lx_X hX).1 (lx_X hX).2 rfl (Nat.le_of_ble_eq_true rfl) rfl 115 rfl ?_
        intro x23 M24
        refine g_pop 116 rfl dX9_carryOut_115 rfl ?_
        refine g_goto 172 (by decide) dX9_carryOut_116 ?_
        refine g_sub [] [] rfl ?_
        exact hk10 M24
      · intro h55_0
        refine g_case ?_ ?_
        · intro h55_1
          refine g_tin (off := 64) 119 (by rw [h55_1]; decide) (by rw [h55_1]; decide) (by rw [h55_1]; rfl) (by decide) dX9_carryOut_55 ?_
          refine g_aload_n 4 rfl rfl 120 rfl dX9_carryOut_119 ?_
          refine g_iload_n 2 rfl rfl 121 rfl dX9_carryOut_120 ?_
          refine g_iload 1 rfl 123 rfl dX9_carryOut_121 ?_
          refine g_xVI 0 [.int x5, .int x6] [] (c_X9_setOffset l hO hX hl0 hT M x5 x6) (fun _ _ => rfl) dX9_carryOut_123 uv_X9_105 rfl yk_X9_setOffset ⟨by decide, by decide⟩ (lx_X hX).1 (lx_X hX).2 rfl (Nat.le_of_ble_eq_true rfl) rfl 126 rfl ?_
          intro x19 M20
          refine g_pop 127 rfl dX9_carryOut_126 rfl ?_
          refine g_goto 172 (by decide) dX9_carryOut_127 ?_
          refine g_sub [] [] rfl ?_
          exact hk10 M20
        · intro h55_1
          refine g_case ?_ ?_
          · intro h55_2
            refine g_tin (off := 75) 130 (by rw [h55_2]; decide) (by rw [h55_2]; decide) (by rw [h55_2]; rfl) (by decide) dX9_carryOut_55 ?_
            refine g_aload_n 4 rfl rfl 131 rfl dX9_carryOut_130 ?_
            refine g_iload_n 2 rfl rfl 132 rfl dX9_carryOut_131 ?_
            refine g_iload 1 rfl 134 rfl dX9_carryOut_132 ?_
            refine g_xVI 0 [.int x5, .int x6] [] (c_X9_makeRequest l hO hX hl0 hT M x5 x6) (fun _ _ => rfl) dX9_carryOut_134 uv_X9_296 rfl yk_X9_makeRequest ⟨by decide, by decide⟩ (lx_X hX).1 (lx_X hX).2 rfl (Nat.le_of_ble_eq_true rfl) rfl 137 rfl ?_
            intro x17 M18
            refine g_pop 138 rfl dX9_carryOut_137 rfl ?_
            refine g_goto 172 (by decide) dX9_carryOut_138 ?_
            refine g_sub [] [] rfl ?_
            exact hk10 M18
          · intro h55_2
            refine g_case ?_ ?_
            · intro h55_3
              refine g_tin (off := 86) 141 (by rw [h55_3]; decide) (by rw [h55_3]; decide) (by rw [h55_3]; rfl) (by decide) dX9_carryOut_55 ?_
              refine g_aload_n 4 rfl rfl 142 rfl dX9_carryOut_141 ?_
              refine w_getR (lx_X hX) rfl in_X9 0 (by decide) wf_X9_12 1 rfl 145 rfl dX9_carryOut_142 ?_
              refine g_iload_n 2 rfl rfl 146 rfl dX9_carryOut_145 ?_
              refine g_cVI 1 [.int x5] [] (c_X6_letPass l hO hX isS_1 M x5) dX9_carryOut_146 uv_X9_302 rfl yk_X6_letPass ⟨by decide, by decide⟩ (lx_S hX isS_1).1 (lx_S hX isS_1).2 rfl (Nat.le_of_ble_eq_true rfl) rfl 149 rfl ?_
              intro x15 M16
              refine g_pop 150 rfl dX9_carryOut_149 rfl ?_
              refine g_goto 172 (by decide) dX9_carryOut_150 ?_
              refine g_sub [] [] rfl ?_
              exact hk10 M16
            · intro h55_3
              refine g_case ?_ ?_
              · intro h55_4
                refine g_tin (off := 98) 153 (by rw [h55_4]; decide) (by rw [h55_4]; decide) (by rw [h55_4]; rfl) (by decide) dX9_carryOut_55 ?_
                refine g_aload_n 4 rfl rfl 154 rfl dX9_carryOut_153 ?_
                refine g_iload_n 2 rfl rfl 155 rfl dX9_carryOut_154 ?_
                refine g_xVI 0 [.int x5] [] (c_X9_planChange l hO hX hl0 hT M x5) (fun _ _ => rfl) dX9_carryOut_155 uv_X9_311 rfl yk_X9_planChange ⟨by decide, by decide⟩ (lx_X hX).1 (lx_X hX).2 rfl (Nat.le_of_ble_eq_true rfl) rfl 158 rfl ?_
                intro x13 M14
                refine g_pop 159 rfl dX9_carryOut_158 rfl ?_
                refine g_goto 172 (by decide) dX9_carryOut_159 ?_
                refine g_sub [] [] rfl ?_
                exact hk10 M14
              · intro h55_4
                refine g_tout 162 (ts_out (fun z h1 h2 e => by have q0 := ts_ne (z := 1) h55_0 (by decide); have q1 := ts_ne (z := 2) h55_1 (by decide); have q2 := ts_ne (z := 3) h55_2 (by decide); have q3 := ts_ne (z := 4) h55_3 (by decide); have q4 := ts_ne (z := 5) h55_4 (by decide); omega)) (by decide) dX9_carryOut_55 ?_
                refine g_aload_n 4 rfl rfl 163 rfl dX9_carryOut_162 ?_
                refine g_iload_n 2 rfl rfl 164 rfl dX9_carryOut_163 ?_
                refine g_iload 1 rfl 166 rfl dX9_carryOut_164 ?_
                refine g_iload 0 rfl 168 rfl dX9_carryOut_166 ?_
                refine g_xVI 0 [.int x5, .int x6, .int x7] [] (c_X9_setRoadGroups l hO hX hl0 hT M x5 x6 x7) (fun _ _ => rfl) dX9_carryOut_168 uv_X9_112 rfl yk_X9_setRoadGroups ⟨by decide, by decide⟩ (lx_X hX).1 (lx_X hX).2 rfl (Nat.le_of_ble_eq_true rfl) rfl 171 rfl ?_
                intro x11 M12
                refine g_pop 172 rfl dX9_carryOut_171 rfl ?_
                refine g_sub [] [] rfl ?_
                exact hk10 M12
def fX9_change (M : Mem) (p0 : Int32) : Option ((Nat ⊕ Int32) × Mem) := clp (fX9_changeFault M p0) (fun x1 => clpm M (fX9_raise M x1) (fun u2 => cl (fX1_push M 1) (fun u3 M4 => clx (fX9_planChange M4 p0) (fun x5 M6 => some (.inr x5, M6)))))
set_option maxRecDepth 100000 in
set_option maxHeartbeats 4000000 in
theorem c_X9_change {Ω : Wd} (l : Launch) (hO : OkW Ω) (hX : LX Ω) (hl0 : l.stackTraces = false) (hT : ThrOk Ω)  (M : Mem) (p0 : Int32) : ∀ r, fX9_change M p0 = some r → Ct l yX9_change (.code yX9_change cX9_change 2 (some .int)) 8 165 Ω [.ref (wA Ω 0), .int p0] M (cvIX r) := by
  refine ofG [(0, .ref (wA Ω 0)), (1, .int p0)] hO (by decide) rfl (Nat.le_of_ble_eq_true rfl) rfl ?_
  intro p e s m args below meth c
  unfold fX9_change
  refine g_aload_n 0 rfl rfl 1 rfl dX9_change_0 ?_
  refine g_iload_n 1 rfl rfl 2 rfl dX9_change_1 ?_
  refine p_cVI 0 [.int p0] [] (c_X9_changeFault l hO hX M p0) dX9_change_2 uv_X9_308 rfl yk_X9_changeFault ⟨by decide, by decide⟩ (lx_X hX).1 (lx_X hX).2 rfl (Nat.le_of_ble_eq_true rfl) rfl 5 rfl ?_
  intro x1
  refine q_xSV [.int x1] [] (c_X9_raise l hO hl0 hT M x1) (fun _ _ => rfl) dX9_change_5 us_X9_101 rfl yk_X9_raise ⟨by decide, by decide⟩ (Nat.le_of_ble_eq_true rfl) rfl 8 rfl ?_
  intro u2
  refine g_aload_n 0 rfl rfl 9 rfl dX9_change_8 ?_
  refine w_getR (lx_X hX) rfl in_X9 3 (by decide) wf_X9_25 463 rfl 12 rfl dX9_change_9 ?_
  refine g_aload_n 0 rfl rfl 13 rfl dX9_change_12 ?_
  refine w_getR (lx_X hX) rfl in_X9 0 (by decide) wf_X9_12 1 rfl 16 rfl dX9_change_13 ?_
  refine g_cVV 463 [.ref (wA Ω 1)] [] (c_X1_push l hO hX isS_1 M) dX9_change_16 uv_X9_76 rfl yk_X1_push ⟨by decide, by decide⟩ (lx_H hX).1 (lx_H hX).2 rfl (Nat.le_of_ble_eq_true rfl) rfl 19 rfl ?_
  intro u3 M4
  refine g_aload_n 0 rfl rfl 20 rfl dX9_change_19 ?_
  refine g_iload_n 1 rfl rfl 21 rfl dX9_change_20 ?_
  refine g_xVI 0 [.int p0] [] (c_X9_planChange l hO hX hl0 hT M4 p0) (fun _ _ => rfl) dX9_change_21 uv_X9_311 rfl yk_X9_planChange ⟨by decide, by decide⟩ (lx_X hX).1 (lx_X hX).2 rfl (Nat.le_of_ble_eq_true rfl) rfl 24 rfl ?_
  intro x5 M6
  exact g_iretX rfl dX9_change_24
def fX9_report (M : Mem) (p0 : Int32) : Option ((Nat ⊕ Int32) × Mem) := clpm M (fX9_found M p0) (fun o1 => grd (isJb o1) (clp (fX2_localSecond M o1 (M 1 2) (M 1 0)) (fun x2 => clp (fX2_onSet M o1 (M o1 3) x2 (M 1 0)) (fun x3 => cl (fX4_write M p0 o1 x2 x3) (fun u4 M5 => some (.inr (M5 477 0), M5))))))
set_option maxRecDepth 100000 in
set_option maxHeartbeats 4000000 in
theorem c_X9_report {Ω : Wd} (l : Launch) (hO : OkW Ω) (hX : LX Ω) (hl0 : l.stackTraces = false) (hT : ThrOk Ω) {K V : Nat → Nat} (hK : StrOk Ω K V)  (M : Mem) (p0 : Int32) : ∀ r, fX9_report M p0 = some r → Ct l yX9_report (.code yX9_report cX9_report 4 (some .int)) 7 155 Ω [.ref (wA Ω 0), .int p0] M (cvIX r) := by
  refine ofG [(0, .ref (wA Ω 0)), (1, .int p0)] hO (by decide) rfl (Nat.le_of_ble_eq_true rfl) rfl ?_
  intro p e s m args below meth c
  unfold fX9_report
  refine g_aload_n 0 rfl rfl 1 rfl dX9_report_0 ?_
  refine g_iload_n 1 rfl rfl 2 rfl dX9_report_1 ?_
  refine q_xVR 0 [.int p0] [] (c_X9_found l hO hX hl0 hT M p0) (fun _ _ => rfl) dX9_report_2 uv_X9_115 rfl yk_X9_found ⟨by decide, by decide⟩ (lx_X hX).1 (lx_X hX).2 rfl (Nat.le_of_ble_eq_true rfl) rfl 5 rfl ?_
  intro o1
  refine g_grd (fun ho10 => ?_)
  have ho1 := isJb_of ho10
  refine g_astore_nA [(2, .ref (wA Ω o1)), (0, .ref (wA Ω 0)), (1, .int p0)] rfl 6 rfl dX9_report_5 (by decide) rfl ?_
  refine g_aload_n 0 rfl rfl 7 rfl dX9_report_6 ?_
  refine g_aload_n 1 rfl rfl 8 rfl dX9_report_7 ?_
  refine w_getR (lx_X hX) rfl in_X9 0 (by decide) wf_X9_12 1 rfl 11 rfl dX9_report_8 ?_
  refine w_get (lx_S hX isS_1) rfl in_X6 2 (by decide) wf_X9_130 rfl 14 rfl dX9_report_11 ?_
  refine g_aload_n 1 rfl rfl 15 rfl dX9_report_14 ?_
  refine w_getR (lx_X hX) rfl in_X9 0 (by decide) wf_X9_12 1 rfl 18 rfl dX9_report_15 ?_
  refine w_get (lx_S hX isS_1) rfl in_X6 0 (by decide) wf_X9_80 rfl 21 rfl dX9_report_18 ?_
  refine p_cVI o1 [.int (M 1 2), .int (M 1 0)] [] (c_X2_localSecond l hO hX ho1 M (M 1 2) (M 1 0)) dX9_report_21 uv_X9_133 rfl yk_X2_localSecond ⟨by decide, by decide⟩ (lx_J hX ho1).1 (lx_J hX ho1).2 rfl (Nat.le_of_ble_eq_true rfl) rfl 24 rfl ?_
  intro x2
  refine g_istore_nA [(3, .int x2), (2, .ref (wA Ω o1)), (0, .ref (wA Ω 0)), (1, .int p0)] rfl 25 rfl dX9_report_24 (by decide) rfl ?_
  refine g_aload_n 2 rfl rfl 26 rfl dX9_report_25 ?_
  refine w_getR (lx_X hX) rfl in_X9 7 (by decide) wf_X9_53 477 rfl 29 rfl dX9_report_26 ?_
  refine g_iload_n 3 rfl rfl 30 rfl dX9_report_29 ?_
  refine g_aload_n 1 rfl rfl 31 rfl dX9_report_30 ?_
  refine g_iload_n 0 rfl rfl 32 rfl dX9_report_31 ?_
  refine g_aload_n 1 rfl rfl 33 rfl dX9_report_32 ?_
  refine g_aload_n 1 rfl rfl 34 rfl dX9_report_33 ?_
  refine w_get (lx_J hX ho1) rfl in_X2 3 (by decide) wf_X9_136 rfl 37 rfl dX9_report_34 ?_
  refine g_iload_n 0 rfl rfl 38 rfl dX9_report_37 ?_
  refine g_aload_n 2 rfl rfl 39 rfl dX9_report_38 ?_
  refine w_getR (lx_X hX) rfl in_X9 0 (by decide) wf_X9_12 1 rfl 42 rfl dX9_report_39 ?_
  refine w_get (lx_S hX isS_1) rfl in_X6 0 (by decide) wf_X9_80 rfl 45 rfl dX9_report_42 ?_
  refine p_cVI o1 [.int (M o1 3), .int x2, .int (M 1 0)] [.int x2, .ref (wA Ω o1), .int p0, .ref (wA Ω 477)] (c_X2_onSet l hO hX ho1 M (M o1 3) x2 (M 1 0)) dX9_report_45 uv_X9_261 rfl yk_X2_onSet ⟨by decide, by decide⟩ (lx_J hX ho1).1 (lx_J hX ho1).2 rfl (Nat.le_of_ble_eq_true rfl) rfl 48 rfl ?_
  intro x3
  refine g_cVV 477 [.int p0, .ref (wA Ω o1), .int x2, .int x3] [] (c_X4_write l hO hX hK ho1 M p0 x2 x3) dX9_report_48 uv_X9_363 rfl yk_X4_write ⟨by decide, by decide⟩ (lx_R hX).1 (lx_R hX).2 rfl (Nat.le_of_ble_eq_true rfl) rfl 51 rfl ?_
  intro u4 M5
  refine g_aload_n 2 rfl rfl 52 rfl dX9_report_51 ?_
  refine w_getR (lx_X hX) rfl in_X9 7 (by decide) wf_X9_53 477 rfl 55 rfl dX9_report_52 ?_
  refine w_get (lx_R hX) rfl in_X4 0 (by decide) wf_X9_367 rfl 58 rfl dX9_report_55 ?_
  exact g_iretX rfl dX9_report_58
def fX9_text_L1 (k11 : Mem → Option ((Nat ⊕ Int32) × Mem)) (k15 : (Int32 × Mem) → Option ((Nat ⊕ Int32) × Mem)) (k20 : (Int32 × Mem) → Option ((Nat ⊕ Int32) × Mem)) (a19 : Int32 × Mem) : Option ((Nat ⊕ Int32) × Mem) := if a19.2 472 1 ≤ a19.1 then (k11 a19.2) else (cl (fX9_commandFault a19.2 a19.1) (fun x21 M22 => if x21 = 0 then (clx (fX9_carryOut M22 a19.1) (fun u23 M24 => bnd (a19.1 + 1) (fun x25 => k20 (x25, M24)))) else (k15 (a19.1, M22))))
def fX9_text (M : Mem)  : Option ((Nat ⊕ Int32) × Mem) := cl (fX5_read M) (fun x1 M2 => bnd (mset M2 0 10 x1) (fun M3 => bnd (mset M3 472 0 0) (fun M4 => jn (fun (a5 : Int32) => clpm M4 (fX9_need M4 a5 2) (fun u7 => cl (fX6_copyFrom M4 43 1) (fun u8 M9 => jn (fun (a10 : Mem) => cl (fX1_push a10 43) (fun u12 M13 => some (.inr (M13 472 1), M13))) (fun k11 => jn (fun (a14 : Int32 × Mem) => grd (inb a14.1 10) (bnd (mset a14.2 0 10 (a14.2 474 a14.1.toNatClampNeg)) (fun M16 => cl (fX6_copyFrom M16 1 43) (fun u17 M18 => some (.inl 2, M18))))) (fun k15 => lp (fX9_text_L1 k11 k15) FU (0, M9)))))) (fun k6 => if M4 0 10 = (-1) then (k6 1) else (k6 0)))))
set_option maxRecDepth 100000 in
set_option maxHeartbeats 4000000 in
theorem c_X9_text {Ω : Wd} (l : Launch) (hO : OkW Ω) (hX : LX Ω) (hl0 : l.stackTraces = false) (hT : ThrOk Ω) {K V : Nat → Nat} (hK : StrOk Ω K V) {E : Nat → Nat} {t0 t1 : Nat} (hE : EnOk Ω E K t0 t1) (hW : WA Ω E)  (M : Mem)  : ∀ r, fX9_text M  = some r → Ct l yX9_text (.code yX9_text cX9_text 2 (some .int)) 9 193 Ω [.ref (wA Ω 0)] M (cvIX r) := by
  refine ofG [(0, .ref (wA Ω 0))] hO (by decide) rfl (Nat.le_of_ble_eq_true rfl) rfl ?_
  intro p e s m args below meth c
  unfold fX9_text
  refine g_aload_n 0 rfl rfl 1 rfl dX9_text_0 ?_
  refine g_aload_n 0 rfl rfl 2 rfl dX9_text_1 ?_
  refine w_getR (lx_X hX) rfl in_X9 6 (by decide) wf_X9_46 472 rfl 5 rfl dX9_text_2 ?_
  refine g_cVI 472 [] [.ref (wA Ω 0)] (c_X5_read l hO hX hK hE hW M) dX9_text_5 uv_X9_342 rfl yk_X5_read ⟨by decide, by decide⟩ (lx_C hX).1 (lx_C hX).2 rfl (Nat.le_of_ble_eq_true rfl) rfl 8 rfl ?_
  intro x1 M2
  refine w_put (lx_X hX) rfl in_X9 10 (by decide) wf_X9_61 tyX9 tyX9_ok nmX9 rfl rfl rfl rfl 11 rfl dX9_text_8 ?_
  intro M3
  refine g_aload_n 0 rfl rfl 12 rfl dX9_text_11 ?_
  refine w_getR (lx_X hX) rfl in_X9 6 (by decide) wf_X9_46 472 rfl 15 rfl dX9_text_12 ?_
  refine g_iconst 0 16 rfl dX9_text_15 (by decide) ?_
  refine w_put (lx_C hX) rfl in_X5 0 (by decide) wf_X9_321 tyX5 tyX5_ok nmX5 rfl rfl rfl rfl 19 rfl dX9_text_16 ?_
  intro M4
  refine g_aload_n 0 rfl rfl 20 rfl dX9_text_19 ?_
  refine w_get (lx_X hX) rfl in_X9 10 (by decide) wf_X9_61 rfl 23 rfl dX9_text_20 ?_
  refine g_iconst (-1) 24 rfl dX9_text_23 (by decide) ?_
  refine g_join 32 (fun a5 => [(0, .ref (wA Ω 0))]) (fun a5 => [.int a5]) (fun a5 => M4) ?_ ?_
  · intro a5
    refine g_iconst 2 33 rfl dX9_text_32 (by decide) ?_
    refine q_xSV [.int a5, .int 2] [] (c_X9_need l hO hl0 hT M4 a5 2) (fun _ _ => rfl) dX9_text_33 us_X9_68 rfl yk_X9_need ⟨by decide, by decide⟩ (Nat.le_of_ble_eq_true rfl) rfl 36 rfl ?_
    intro u7
    refine g_aload_n 0 rfl rfl 37 rfl dX9_text_36 ?_
    refine w_getR (lx_X hX) rfl in_X9 1 (by decide) wf_X9_16 43 rfl 40 rfl dX9_text_37 ?_
    refine g_aload_n 0 rfl rfl 41 rfl dX9_text_40 ?_
    refine w_getR (lx_X hX) rfl in_X9 0 (by decide) wf_X9_12 1 rfl 44 rfl dX9_text_41 ?_
    refine g_cVV 43 [.ref (wA Ω 1)] [] (c_X6_copyFrom l hO hX isS_43 isS_1 M4) dX9_text_44 uv_X9_345 rfl yk_X6_copyFrom ⟨by decide, by decide⟩ (lx_S hX isS_43).1 (lx_S hX isS_43).2 rfl (Nat.le_of_ble_eq_true rfl) rfl 47 rfl ?_
    intro u8 M9
    refine g_iconst 0 48 rfl dX9_text_47 (by decide) ?_
    refine g_istore_nA [(1, .int 0), (0, .ref (wA Ω 0))] rfl 49 rfl dX9_text_48 (by decide) rfl ?_
    refine g_join 114 (fun a10 => [(0, .ref (wA Ω 0))]) (fun a10 => []) (fun a10 => a10) ?_ ?_
    · intro a10
      refine g_aload_n 0 rfl rfl 115 rfl dX9_text_114 ?_
      refine w_getR (lx_X hX) rfl in_X9 3 (by decide) wf_X9_25 463 rfl 118 rfl dX9_text_115 ?_
      refine g_aload_n 0 rfl rfl 119 rfl dX9_text_118 ?_
      refine w_getR (lx_X hX) rfl in_X9 1 (by decide) wf_X9_16 43 rfl 122 rfl dX9_text_119 ?_
      refine g_cVV 463 [.ref (wA Ω 43)] [] (c_X1_push l hO hX isS_43 a10) dX9_text_122 uv_X9_76 rfl yk_X1_push ⟨by decide, by decide⟩ (lx_H hX).1 (lx_H hX).2 rfl (Nat.le_of_ble_eq_true rfl) rfl 125 rfl ?_
      intro u12 M13
      refine g_aload_n 0 rfl rfl 126 rfl dX9_text_125 ?_
      refine w_getR (lx_X hX) rfl in_X9 6 (by decide) wf_X9_46 472 rfl 129 rfl dX9_text_126 ?_
      refine w_get (lx_C hX) rfl in_X5 1 (by decide) wf_X9_348 rfl 132 rfl dX9_text_129 ?_
      exact g_iretX rfl dX9_text_132
    · intro k11 hk11
      refine g_join 68 (fun a14 => [(0, .ref (wA Ω 0)), (1, .int a14.1)]) (fun a14 => []) (fun a14 => a14.2) ?_ ?_
      · intro a14
        refine g_aload_n 0 rfl rfl 69 rfl dX9_text_68 ?_
        refine g_aload_n 0 rfl rfl 70 rfl dX9_text_69 ?_
        refine w_getR (lx_X hX) rfl in_X9 6 (by decide) wf_X9_46 472 rfl 73 rfl dX9_text_70 ?_
        refine w_getR (lx_C hX) rfl in_X5 5 (by decide) wf_X9_352 474 rfl 76 rfl dX9_text_73 ?_
        refine g_iload_n 1 rfl rfl 77 rfl dX9_text_76 ?_
        refine w_iald (lx_C2 hX) 78 rfl dX9_text_77 ?_
        refine w_put (lx_X hX) rfl in_X9 10 (by decide) wf_X9_61 tyX9 tyX9_ok nmX9 rfl rfl rfl rfl 81 rfl dX9_text_78 ?_
        intro M16
        refine g_aload_n 0 rfl rfl 82 rfl dX9_text_81 ?_
        refine w_getR (lx_X hX) rfl in_X9 0 (by decide) wf_X9_12 1 rfl 85 rfl dX9_text_82 ?_
        refine g_aload_n 0 rfl rfl 86 rfl dX9_text_85 ?_
        refine w_getR (lx_X hX) rfl in_X9 1 (by decide) wf_X9_16 43 rfl 89 rfl dX9_text_86 ?_
        refine g_cVV 1 [.ref (wA Ω 43)] [] (c_X6_copyFrom l hO hX isS_1 isS_43 M16) dX9_text_89 uv_X9_345 rfl yk_X6_copyFrom ⟨by decide, by decide⟩ (lx_S hX isS_1).1 (lx_S hX isS_1).2 rfl (Nat.le_of_ble_eq_true rfl) rfl 92 rfl ?_
        intro u17 M18
        exact g_throwW hl0 hT 2 355 357 359 "a command of the text cannot be carried out" xNm xf_2 xNm_ok wj_X9_355 wxi_2 (List.mem_of_getElem? (i := 9) rfl) xa_2 xg_2 dX9_text_92 dX9_text_95 dX9_text_96 dX9_text_99 dX9_text_102 (by decide) (Nat.le_of_ble_eq_true rfl) rfl
      · intro k15 hk15
        refine g_sub [(0, .ref (wA Ω 0)), (1, .int 0)] [1, 0] rfl ?_
        refine g_loop 49 (fun a19 => [(0, .ref (wA Ω 0)), (1, .int a19.1)]) (fun _ => []) (fun a19 => a19.2) ?_ FU (0, M9)
        intro k20 hk20 a19
        unfold fX9_text_L1
        refine g_iload_n 1 rfl rfl 50 rfl dX9_text_49 ?_
        refine g_aload_n 0 rfl rfl 51 rfl dX9_text_50 ?_
        refine w_getR (lx_X hX) rfl in_X9 6 (by decide) wf_X9_46 472 rfl 54 rfl dX9_text_51 ?_
        refine w_get (lx_C hX) rfl in_X5 1 (by decide) wf_X9_348 rfl 57 rfl dX9_text_54 ?_
        refine g_icmp_ge 114 (by decide) 60 rfl dX9_text_57 ?_ ?_
        · refine g_sub [(0, .ref (wA Ω 0))] [0] rfl ?_
          exact hk11 a19.2
        · refine g_aload_n 0 rfl rfl 61 rfl dX9_text_60 ?_
          refine g_iload_n 1 rfl rfl 62 rfl dX9_text_61 ?_
          refine g_cVI 0 [.int a19.1] [] (c_X9_commandFault l hO hX hK hE hW a19.2 a19.1) dX9_text_62 uv_X9_349 rfl yk_X9_commandFault ⟨by decide, by decide⟩ (lx_X hX).1 (lx_X hX).2 rfl (Nat.le_of_ble_eq_true rfl) rfl 65 rfl ?_
          intro x21 M22
          refine g_if_eq 103 (by decide) 68 rfl dX9_text_65 ?_ ?_
          · refine g_aload_n 0 rfl rfl 104 rfl dX9_text_103 ?_
            refine g_iload_n 1 rfl rfl 105 rfl dX9_text_104 ?_
            refine g_xVV 0 [.int a19.1] [] (c_X9_carryOut l hO hX hl0 hT hK hE hW M22 a19.1) (fun _ _ => rfl) dX9_text_105 uv_X9_360 rfl yk_X9_carryOut ⟨by decide, by decide⟩ (lx_X hX).1 (lx_X hX).2 rfl (Nat.le_of_ble_eq_true rfl) rfl 108 rfl ?_
            intro u23 M24
            refine g_iinc 1 rfl 1 (by decide) (fun x25 => [(1, .int x25), (0, .ref (wA Ω 0))]) 111 rfl dX9_text_108 (by decide) (fun _ => rfl) ?_
            intro x25
            refine g_goto 49 (by decide) dX9_text_111 ?_
            refine g_sub [(0, .ref (wA Ω 0)), (1, .int x25)] [1, 0] rfl ?_
            exact hk20 (x25, M24)
          · exact hk15 (a19.1, M22)
  · intro k6 hk6
    refine g_icmp_ne 31 (by decide) 27 rfl dX9_text_24 ?_ ?_
    · refine g_iconst 1 28 rfl dX9_text_27 (by decide) ?_
      refine g_goto 32 (by decide) dX9_text_28 ?_
      exact hk6 1
    · refine g_iconst 0 32 rfl dX9_text_31 (by decide) ?_
      exact hk6 0
