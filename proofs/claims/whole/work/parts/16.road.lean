def fX9_errorPosition (M : Mem)  : Option Int32 := some (M 0 10)
set_option maxRecDepth 100000 in
set_option maxHeartbeats 4000000 in
theorem c_X9_errorPosition {Ω : Wd} (l : Launch) (hO : OkW Ω) (hX : LX Ω)  (M : Mem)  : ∀ r, fX9_errorPosition M  = some r → Ct l yX9_errorPosition (.code yX9_errorPosition cX9_errorPosition 1 (some .int)) 0 0 Ω [.ref (wA Ω 0)] M ((cpI M) r) := by
  refine ofG [(0, .ref (wA Ω 0))] hO (by decide) rfl (Nat.le_of_ble_eq_true rfl) rfl ?_
  intro p e s m args below meth c
  unfold fX9_errorPosition
  refine g_aload_n 0 rfl rfl 1 rfl dX9_errorPosition_0 ?_
  refine w_get (lx_X hX) rfl in_X9 10 (by decide) wf_X9_61 rfl 4 rfl dX9_errorPosition_1 ?_
  exact p_iret rfl dX9_errorPosition_4
def fX9_save (M : Mem)  : Option (Int32 × Mem) := cl (fX6_copyFrom M 85 1) (fun u1 M2 => bnd (mset M2 0 8 1) (fun M3 => some (M3 1 3, M3)))
set_option maxRecDepth 100000 in
set_option maxHeartbeats 4000000 in
theorem c_X9_save {Ω : Wd} (l : Launch) (hO : OkW Ω) (hX : LX Ω)  (M : Mem)  : ∀ r, fX9_save M  = some r → Ct l yX9_save (.code yX9_save cX9_save 1 (some .int)) 3 69 Ω [.ref (wA Ω 0)] M (cvI r) := by
  refine ofG [(0, .ref (wA Ω 0))] hO (by decide) rfl (Nat.le_of_ble_eq_true rfl) rfl ?_
  intro p e s m args below meth c
  unfold fX9_save
  refine g_aload_n 0 rfl rfl 1 rfl dX9_save_0 ?_
  refine w_getR (lx_X hX) rfl in_X9 2 (by decide) wf_X9_19 85 rfl 4 rfl dX9_save_1 ?_
  refine g_aload_n 0 rfl rfl 5 rfl dX9_save_4 ?_
  refine w_getR (lx_X hX) rfl in_X9 0 (by decide) wf_X9_12 1 rfl 8 rfl dX9_save_5 ?_
  refine g_cVV 85 [.ref (wA Ω 1)] [] (c_X6_copyFrom l hO hX isS_85 isS_1 M) dX9_save_8 uv_X9_345 rfl yk_X6_copyFrom ⟨by decide, by decide⟩ (lx_S hX isS_85).1 (lx_S hX isS_85).2 rfl (Nat.le_of_ble_eq_true rfl) rfl 11 rfl ?_
  intro u1 M2
  refine g_aload_n 0 rfl rfl 12 rfl dX9_save_11 ?_
  refine g_iconst 1 13 rfl dX9_save_12 (by decide) ?_
  refine w_put (lx_X hX) rfl in_X9 8 (by decide) wf_X9_375 tyX9 tyX9_ok nmX9 rfl rfl rfl rfl 16 rfl dX9_save_13 ?_
  intro M3
  refine g_aload_n 0 rfl rfl 17 rfl dX9_save_16 ?_
  refine w_getR (lx_X hX) rfl in_X9 0 (by decide) wf_X9_12 1 rfl 20 rfl dX9_save_17 ?_
  refine w_get (lx_S hX isS_1) rfl in_X6 3 (by decide) wf_X9_90 rfl 23 rfl dX9_save_20 ?_
  exact g_iret rfl dX9_save_23
def fX9_faultOfReason (M : Mem) (p0 : Int32) : Option (Int32 × Mem) := if p0 = 0 then (some (0, M)) else (bnd (mset M 0 9 p0) (fun M1 => some (4, M1)))
set_option maxRecDepth 100000 in
set_option maxHeartbeats 4000000 in
theorem c_X9_faultOfReason {Ω : Wd} (l : Launch) (hO : OkW Ω) (hX : LX Ω)  (M : Mem) (p0 : Int32) : ∀ r, fX9_faultOfReason M p0 = some r → Ct l yX9_faultOfReason (.code yX9_faultOfReason cX9_faultOfReason 2 (some .int)) 0 0 Ω [.ref (wA Ω 0), .int p0] M (cvI r) := by
  refine ofG [(0, .ref (wA Ω 0)), (1, .int p0)] hO (by decide) rfl (Nat.le_of_ble_eq_true rfl) rfl ?_
  intro p e s m args below meth c
  unfold fX9_faultOfReason
  refine g_iload_n 1 rfl rfl 1 rfl dX9_faultOfReason_0 ?_
  refine g_if_ne 6 (by decide) 4 rfl dX9_faultOfReason_1 ?_ ?_
  · refine g_iconst 0 5 rfl dX9_faultOfReason_4 (by decide) ?_
    exact g_iret rfl dX9_faultOfReason_5
  · refine g_aload_n 0 rfl rfl 7 rfl dX9_faultOfReason_6 ?_
    refine g_iload_n 1 rfl rfl 8 rfl dX9_faultOfReason_7 ?_
    refine w_put (lx_X hX) rfl in_X9 9 (by decide) wf_X9_57 tyX9 tyX9_ok nmX9 rfl rfl rfl rfl 11 rfl dX9_faultOfReason_8 ?_
    intro M1
    refine g_iconst 4 12 rfl dX9_faultOfReason_11 (by decide) ?_
    exact g_iret rfl dX9_faultOfReason_12
def fX9_offsetFault (M : Mem) (p0 : Int32) (p1 : Int32) : Option Int32 := clpn (fX6_find M 1 p0) (some 1) (fun o1 => grd (isJb o1) (clp (fX9_isWithin M p1 0 ((M 1 0) - 1)) (fun x2 => if x2 = 0 then (some 2) else (clp (fX2_isChangePlanned M o1) (fun x3 => jn (fun (a4 : Int32) => some a4) (fun k5 => if x3 = 0 then (k5 0) else (k5 3)))))))
set_option maxRecDepth 100000 in
set_option maxHeartbeats 4000000 in
theorem c_X9_offsetFault {Ω : Wd} (l : Launch) (hO : OkW Ω) (hX : LX Ω)  (M : Mem) (p0 : Int32) (p1 : Int32) : ∀ r, fX9_offsetFault M p0 p1 = some r → Ct l yX9_offsetFault (.code yX9_offsetFault cX9_offsetFault 4 (some .int)) 2 43 Ω [.ref (wA Ω 0), .int p0, .int p1] M ((cpI M) r) := by
  refine ofG [(0, .ref (wA Ω 0)), (1, .int p0), (2, .int p1)] hO (by decide) rfl (Nat.le_of_ble_eq_true rfl) rfl ?_
  intro p e s m args below meth c
  unfold fX9_offsetFault
  refine g_aload_n 0 rfl rfl 1 rfl dX9_offsetFault_0 ?_
  refine w_getR (lx_X hX) rfl in_X9 0 (by decide) wf_X9_12 1 rfl 4 rfl dX9_offsetFault_1 ?_
  refine g_iload_n 1 rfl rfl 5 rfl dX9_offsetFault_4 ?_
  refine p_cVN 1 [.int p0] [] (c_X6_find l hO hX isS_1 M p0) dX9_offsetFault_5 uv_X9_287 rfl yk_X6_find ⟨by decide, by decide⟩ (lx_S hX isS_1).1 (lx_S hX isS_1).2 rfl (Nat.le_of_ble_eq_true rfl) rfl 8 rfl ?_ ?_
  · refine g_astore_nNA [(3, .null), (0, .ref (wA Ω 0)), (1, .int p0), (2, .int p1)] rfl 9 rfl dX9_offsetFault_8 (by decide) rfl ?_
    refine g_aload_nN 0 rfl rfl 10 rfl dX9_offsetFault_9 ?_
    refine g_ifnonnullN 13 rfl dX9_offsetFault_10 ?_
    refine g_iconst 1 14 rfl dX9_offsetFault_13 (by decide) ?_
    exact p_iret rfl dX9_offsetFault_14
  · intro o1
    refine g_grd (fun ho10 => ?_)
    have ho1 := isJb_of ho10
    refine g_astore_nA [(3, .ref (wA Ω o1)), (0, .ref (wA Ω 0)), (1, .int p0), (2, .int p1)] rfl 9 rfl dX9_offsetFault_8 (by decide) rfl ?_
    refine g_aload_n 0 rfl rfl 10 rfl dX9_offsetFault_9 ?_
    refine g_ifnonnull 15 (by decide) dX9_offsetFault_10 ?_
    refine g_iload_n 3 rfl rfl 16 rfl dX9_offsetFault_15 ?_
    refine g_iconst 0 17 rfl dX9_offsetFault_16 (by decide) ?_
    refine g_aload_n 1 rfl rfl 18 rfl dX9_offsetFault_17 ?_
    refine w_getR (lx_X hX) rfl in_X9 0 (by decide) wf_X9_12 1 rfl 21 rfl dX9_offsetFault_18 ?_
    refine w_get (lx_S hX isS_1) rfl in_X6 0 (by decide) wf_X9_80 rfl 24 rfl dX9_offsetFault_21 ?_
    refine g_iconst 1 25 rfl dX9_offsetFault_24 (by decide) ?_
    refine g_isub 26 rfl dX9_offsetFault_25 ?_
    refine p_cSI [.int p1, .int 0, .int ((M 1 0) - 1)] [] (c_X9_isWithin l hO M p1 0 ((M 1 0) - 1)) dX9_offsetFault_26 us_X9_64 rfl yk_X9_isWithin ⟨by decide, by decide⟩ (Nat.le_of_ble_eq_true rfl) rfl 29 rfl ?_
    intro x2
    refine g_if_ne 34 (by decide) 32 rfl dX9_offsetFault_29 ?_ ?_
    · refine g_iconst 2 33 rfl dX9_offsetFault_32 (by decide) ?_
      exact p_iret rfl dX9_offsetFault_33
    · refine g_aload_n 0 rfl rfl 35 rfl dX9_offsetFault_34 ?_
      refine p_cVI o1 [] [] (c_X2_isChangePlanned l hO hX ho1 M) dX9_offsetFault_35 uv_X9_194 rfl yk_X2_isChangePlanned ⟨by decide, by decide⟩ (lx_J hX ho1).1 (lx_J hX ho1).2 rfl (Nat.le_of_ble_eq_true rfl) rfl 38 rfl ?_
      intro x3
      refine g_join 46 (fun a4 => []) (fun a4 => [.int a4]) (fun a4 => M) ?_ ?_
      · intro a4
        exact p_iret rfl dX9_offsetFault_46
      · intro k5 hk5
        refine g_if_eq 45 (by decide) 41 rfl dX9_offsetFault_38 ?_ ?_
        · refine g_iconst 0 46 rfl dX9_offsetFault_45 (by decide) ?_
          refine g_sub [] [] rfl ?_
          exact hk5 0
        · refine g_iconst 3 42 rfl dX9_offsetFault_41 (by decide) ?_
          refine g_goto 46 (by decide) dX9_offsetFault_42 ?_
          refine g_sub [] [] rfl ?_
          exact hk5 3
def fX9_roadFault (M : Mem) (p0 : Int32) (p1 : Int32) (p2 : Int32) : Option Int32 := clpn (fX6_find M 1 p0) (jn (fun (a1 : Int32) => some a1) (fun k2 => if (0 : Int32) = 0 then (k2 1) else (k2 0))) (fun o3 => grd (isJb o3) (clp (fX2_hasGroup M o3 p1) (fun x4 => if x4 = 0 then (jn (fun (a5 : Int32) => some a5) (fun k6 => if (0 : Int32) = 0 then (k6 1) else (k6 0))) else (clp (fX2_hasGroup M o3 p2) (fun x7 => if x7 = 0 then (jn (fun (a8 : Int32) => some a8) (fun k9 => if (0 : Int32) = 0 then (k9 1) else (k9 0))) else (jn (fun (a10 : Int32) => some a10) (fun k11 => if (1 : Int32) = 0 then (k11 1) else (k11 0))))))))
set_option maxRecDepth 100000 in
set_option maxHeartbeats 4000000 in
theorem c_X9_roadFault {Ω : Wd} (l : Launch) (hO : OkW Ω) (hX : LX Ω)  (M : Mem) (p0 : Int32) (p1 : Int32) (p2 : Int32) : ∀ r, fX9_roadFault M p0 p1 p2 = some r → Ct l yX9_roadFault (.code yX9_roadFault cX9_roadFault 6 (some .int)) 2 43 Ω [.ref (wA Ω 0), .int p0, .int p1, .int p2] M ((cpI M) r) := by
  refine ofG [(0, .ref (wA Ω 0)), (1, .int p0), (2, .int p1), (3, .int p2)] hO (by decide) rfl (Nat.le_of_ble_eq_true rfl) rfl ?_
  intro p e s m args below meth c
  unfold fX9_roadFault
  refine g_aload_n 0 rfl rfl 1 rfl dX9_roadFault_0 ?_
  refine w_getR (lx_X hX) rfl in_X9 0 (by decide) wf_X9_12 1 rfl 4 rfl dX9_roadFault_1 ?_
  refine g_iload_n 1 rfl rfl 5 rfl dX9_roadFault_4 ?_
  refine p_cVN 1 [.int p0] [] (c_X6_find l hO hX isS_1 M p0) dX9_roadFault_5 uv_X9_287 rfl yk_X6_find ⟨by decide, by decide⟩ (lx_S hX isS_1).1 (lx_S hX isS_1).2 rfl (Nat.le_of_ble_eq_true rfl) rfl 8 rfl ?_ ?_
  · refine g_astoreNA [(4, .null), (0, .ref (wA Ω 0)), (1, .int p0), (2, .int p1), (3, .int p2)] 10 rfl dX9_roadFault_8 (by decide) rfl ?_
    refine g_aloadN 0 rfl 12 rfl dX9_roadFault_10 ?_
    refine g_ifnullN 37 (by decide) dX9_roadFault_12 ?_
    refine g_iconst 0 38 rfl dX9_roadFault_37 (by decide) ?_
    refine g_istoreA [(5, .int 0), (4, .null), (0, .ref (wA Ω 0)), (1, .int p0), (2, .int p1), (3, .int p2)] 40 rfl dX9_roadFault_38 (by decide) rfl ?_
    refine g_iload 0 rfl 42 rfl dX9_roadFault_40 ?_
    refine g_join 50 (fun a1 => []) (fun a1 => [.int a1]) (fun a1 => M) ?_ ?_
    · intro a1
      exact p_iret rfl dX9_roadFault_50
    · intro k2 hk2
      refine g_if_eq 49 (by decide) 45 rfl dX9_roadFault_42 ?_ ?_
      · refine g_iconst 1 50 rfl dX9_roadFault_49 (by decide) ?_
        refine g_sub [] [] rfl ?_
        exact hk2 1
      · refine g_iconst 0 46 rfl dX9_roadFault_45 (by decide) ?_
        refine g_goto 50 (by decide) dX9_roadFault_46 ?_
        refine g_sub [] [] rfl ?_
        exact hk2 0
  · intro o3
    refine g_grd (fun ho30 => ?_)
    have ho3 := isJb_of ho30
    refine g_astoreA [(4, .ref (wA Ω o3)), (0, .ref (wA Ω 0)), (1, .int p0), (2, .int p1), (3, .int p2)] 10 rfl dX9_roadFault_8 (by decide) rfl ?_
    refine g_aload 0 rfl 12 rfl dX9_roadFault_10 ?_
    refine g_ifnull 15 rfl dX9_roadFault_12 ?_
    refine g_aload 0 rfl 17 rfl dX9_roadFault_15 ?_
    refine g_iload_n 3 rfl rfl 18 rfl dX9_roadFault_17 ?_
    refine p_cVI o3 [.int p1] [] (c_X2_hasGroup l hO hX ho3 M p1) dX9_roadFault_18 uv_X9_188 rfl yk_X2_hasGroup ⟨by decide, by decide⟩ (lx_J hX ho3).1 (lx_J hX ho3).2 rfl (Nat.le_of_ble_eq_true rfl) rfl 21 rfl ?_
    intro x4
    refine g_if_eq 37 (by decide) 24 rfl dX9_roadFault_21 ?_ ?_
    · refine g_iconst 0 38 rfl dX9_roadFault_37 (by decide) ?_
      refine g_istoreA [(5, .int 0), (4, .ref (wA Ω o3)), (0, .ref (wA Ω 0)), (1, .int p0), (2, .int p1), (3, .int p2)] 40 rfl dX9_roadFault_38 (by decide) rfl ?_
      refine g_iload 0 rfl 42 rfl dX9_roadFault_40 ?_
      refine g_join 50 (fun a5 => []) (fun a5 => [.int a5]) (fun a5 => M) ?_ ?_
      · intro a5
        exact p_iret rfl dX9_roadFault_50
      · intro k6 hk6
        refine g_if_eq 49 (by decide) 45 rfl dX9_roadFault_42 ?_ ?_
        · refine g_iconst 1 50 rfl dX9_roadFault_49 (by decide) ?_
          refine g_sub [] [] rfl ?_
          exact hk6 1
        · refine g_iconst 0 46 rfl dX9_roadFault_45 (by decide) ?_
          refine g_goto 50 (by decide) dX9_roadFault_46 ?_
          refine g_sub [] [] rfl ?_
          exact hk6 0
    · refine g_aload 0 rfl 26 rfl dX9_roadFault_24 ?_
      refine g_iload_n 4 rfl rfl 27 rfl dX9_roadFault_26 ?_
      refine p_cVI o3 [.int p2] [] (c_X2_hasGroup l hO hX ho3 M p2) dX9_roadFault_27 uv_X9_188 rfl yk_X2_hasGroup ⟨by decide, by decide⟩ (lx_J hX ho3).1 (lx_J hX ho3).2 rfl (Nat.le_of_ble_eq_true rfl) rfl 30 rfl ?_
      intro x7
      refine g_if_eq 37 (by decide) 33 rfl dX9_roadFault_30 ?_ ?_
      · refine g_iconst 0 38 rfl dX9_roadFault_37 (by decide) ?_
        refine g_istoreA [(5, .int 0), (4, .ref (wA Ω o3)), (0, .ref (wA Ω 0)), (1, .int p0), (2, .int p1), (3, .int p2)] 40 rfl dX9_roadFault_38 (by decide) rfl ?_
        refine g_iload 0 rfl 42 rfl dX9_roadFault_40 ?_
        refine g_join 50 (fun a8 => []) (fun a8 => [.int a8]) (fun a8 => M) ?_ ?_
        · intro a8
          exact p_iret rfl dX9_roadFault_50
        · intro k9 hk9
          refine g_if_eq 49 (by decide) 45 rfl dX9_roadFault_42 ?_ ?_
          · refine g_iconst 1 50 rfl dX9_roadFault_49 (by decide) ?_
            refine g_sub [] [] rfl ?_
            exact hk9 1
          · refine g_iconst 0 46 rfl dX9_roadFault_45 (by decide) ?_
            refine g_goto 50 (by decide) dX9_roadFault_46 ?_
            refine g_sub [] [] rfl ?_
            exact hk9 0
      · refine g_iconst 1 34 rfl dX9_roadFault_33 (by decide) ?_
        refine g_goto 38 (by decide) dX9_roadFault_34 ?_
        refine g_istoreA [(5, .int 1), (4, .ref (wA Ω o3)), (0, .ref (wA Ω 0)), (1, .int p0), (2, .int p1), (3, .int p2)] 40 rfl dX9_roadFault_38 (by decide) rfl ?_
        refine g_iload 0 rfl 42 rfl dX9_roadFault_40 ?_
        refine g_join 50 (fun a10 => []) (fun a10 => [.int a10]) (fun a10 => M) ?_ ?_
        · intro a10
          exact p_iret rfl dX9_roadFault_50
        · intro k11 hk11
          refine g_if_eq 49 (by decide) 45 rfl dX9_roadFault_42 ?_ ?_
          · refine g_iconst 1 50 rfl dX9_roadFault_49 (by decide) ?_
            refine g_sub [] [] rfl ?_
            exact hk11 1
          · refine g_iconst 0 46 rfl dX9_roadFault_45 (by decide) ?_
            refine g_goto 50 (by decide) dX9_roadFault_46 ?_
            refine g_sub [] [] rfl ?_
            exact hk11 0
def fX9_pressFault (M : Mem) (p0 : Int32) (p1 : Int32) : Option Int32 := clpn (fX6_find M 1 p0) (some 1) (fun o1 => grd (isJb o1) (clp (fX2_hasGroup M o1 p1) (fun x2 => if x2 = 0 then (some 1) else (clp (fX2_isByRequest M o1 p1) (fun x3 => jn (fun (a4 : Int32) => some a4) (fun k5 => if x3 = 0 then (k5 3) else (k5 0)))))))
set_option maxRecDepth 100000 in
set_option maxHeartbeats 4000000 in
theorem c_X9_pressFault {Ω : Wd} (l : Launch) (hO : OkW Ω) (hX : LX Ω)  (M : Mem) (p0 : Int32) (p1 : Int32) : ∀ r, fX9_pressFault M p0 p1 = some r → Ct l yX9_pressFault (.code yX9_pressFault cX9_pressFault 4 (some .int)) 2 43 Ω [.ref (wA Ω 0), .int p0, .int p1] M ((cpI M) r) := by
  refine ofG [(0, .ref (wA Ω 0)), (1, .int p0), (2, .int p1)] hO (by decide) rfl (Nat.le_of_ble_eq_true rfl) rfl ?_
  intro p e s m args below meth c
  unfold fX9_pressFault
  refine g_aload_n 0 rfl rfl 1 rfl dX9_pressFault_0 ?_
  refine w_getR (lx_X hX) rfl in_X9 0 (by decide) wf_X9_12 1 rfl 4 rfl dX9_pressFault_1 ?_
  refine g_iload_n 1 rfl rfl 5 rfl dX9_pressFault_4 ?_
  refine p_cVN 1 [.int p0] [] (c_X6_find l hO hX isS_1 M p0) dX9_pressFault_5 uv_X9_287 rfl yk_X6_find ⟨by decide, by decide⟩ (lx_S hX isS_1).1 (lx_S hX isS_1).2 rfl (Nat.le_of_ble_eq_true rfl) rfl 8 rfl ?_ ?_
  · refine g_astore_nNA [(3, .null), (0, .ref (wA Ω 0)), (1, .int p0), (2, .int p1)] rfl 9 rfl dX9_pressFault_8 (by decide) rfl ?_
    refine g_aload_nN 0 rfl rfl 10 rfl dX9_pressFault_9 ?_
    refine g_ifnullN 21 (by decide) dX9_pressFault_10 ?_
    refine g_iconst 1 22 rfl dX9_pressFault_21 (by decide) ?_
    exact p_iret rfl dX9_pressFault_22
  · intro o1
    refine g_grd (fun ho10 => ?_)
    have ho1 := isJb_of ho10
    refine g_astore_nA [(3, .ref (wA Ω o1)), (0, .ref (wA Ω 0)), (1, .int p0), (2, .int p1)] rfl 9 rfl dX9_pressFault_8 (by decide) rfl ?_
    refine g_aload_n 0 rfl rfl 10 rfl dX9_pressFault_9 ?_
    refine g_ifnull 13 rfl dX9_pressFault_10 ?_
    refine g_aload_n 0 rfl rfl 14 rfl dX9_pressFault_13 ?_
    refine g_iload_n 3 rfl rfl 15 rfl dX9_pressFault_14 ?_
    refine p_cVI o1 [.int p1] [] (c_X2_hasGroup l hO hX ho1 M p1) dX9_pressFault_15 uv_X9_188 rfl yk_X2_hasGroup ⟨by decide, by decide⟩ (lx_J hX ho1).1 (lx_J hX ho1).2 rfl (Nat.le_of_ble_eq_true rfl) rfl 18 rfl ?_
    intro x2
    refine g_if_ne 23 (by decide) 21 rfl dX9_pressFault_18 ?_ ?_
    · refine g_iconst 1 22 rfl dX9_pressFault_21 (by decide) ?_
      exact p_iret rfl dX9_pressFault_22
    · refine g_aload_n 0 rfl rfl 24 rfl dX9_pressFault_23 ?_
      refine g_iload_n 3 rfl rfl 25 rfl dX9_pressFault_24 ?_
      refine p_cVI o1 [.int p1] [] (c_X2_isByRequest l hO hX ho1 M p1) dX9_pressFault_25 uv_X9_170 rfl yk_X2_isByRequest ⟨by decide, by decide⟩ (lx_J hX ho1).1 (lx_J hX ho1).2 rfl (Nat.le_of_ble_eq_true rfl) rfl 28 rfl ?_
      intro x3
      refine g_join 36 (fun a4 => []) (fun a4 => [.int a4]) (fun a4 => M) ?_ ?_
      · intro a4
        exact p_iret rfl dX9_pressFault_36
      · intro k5 hk5
        refine g_if_eq 35 (by decide) 31 rfl dX9_pressFault_28 ?_ ?_
        · refine g_iconst 3 36 rfl dX9_pressFault_35 (by decide) ?_
          refine g_sub [] [] rfl ?_
          exact hk5 3
        · refine g_iconst 0 32 rfl dX9_pressFault_31 (by decide) ?_
          refine g_goto 36 (by decide) dX9_pressFault_32 ?_
          refine g_sub [] [] rfl ?_
          exact hk5 0
def fX9_runFault (M : Mem) (p0 : Int32) : Option Int32 := clp (fX9_isWithin M p0 1 300) (fun x1 => if x1 = 0 then (some 2) else (jn (fun (a2 : Int32) => some a2) (fun k3 => if (M 1 2) + p0 ≤ 99999 then (k3 0) else (k3 3))))
set_option maxRecDepth 100000 in
set_option maxHeartbeats 4000000 in
theorem c_X9_runFault {Ω : Wd} (l : Launch) (hO : OkW Ω) (hX : LX Ω)  (M : Mem) (p0 : Int32) : ∀ r, fX9_runFault M p0 = some r → Ct l yX9_runFault (.code yX9_runFault cX9_runFault 2 (some .int)) 1 22 Ω [.ref (wA Ω 0), .int p0] M ((cpI M) r) := by
  refine ofG [(0, .ref (wA Ω 0)), (1, .int p0)] hO (by decide) rfl (Nat.le_of_ble_eq_true rfl) rfl ?_
  intro p e s m args below meth c
  unfold fX9_runFault
  refine g_iload_n 1 rfl rfl 1 rfl dX9_runFault_0 ?_
  refine g_iconst 1 2 rfl dX9_runFault_1 (by decide) ?_
  refine g_sipush 300 5 rfl dX9_runFault_2 (by decide) ?_
  refine p_cSI [.int p0, .int 1, .int 300] [] (c_X9_isWithin l hO M p0 1 300) dX9_runFault_5 us_X9_64 rfl yk_X9_isWithin ⟨by decide, by decide⟩ (Nat.le_of_ble_eq_true rfl) rfl 8 rfl ?_
  intro x1
  refine g_if_ne 13 (by decide) 11 rfl dX9_runFault_8 ?_ ?_
  · refine g_iconst 2 12 rfl dX9_runFault_11 (by decide) ?_
    exact p_iret rfl dX9_runFault_12
  · refine g_aload_n 0 rfl rfl 14 rfl dX9_runFault_13 ?_
    refine w_getR (lx_X hX) rfl in_X9 0 (by decide) wf_X9_12 1 rfl 17 rfl dX9_runFault_14 ?_
    refine w_get (lx_S hX isS_1) rfl in_X6 2 (by decide) wf_X9_130 rfl 20 rfl dX9_runFault_17 ?_
    refine g_iload_n 1 rfl rfl 21 rfl dX9_runFault_20 ?_
    refine g_iadd 22 rfl dX9_runFault_21 ?_
    refine g_ldc_w 99999 wq_X9_270 25 rfl dX9_runFault_22 ?_
    refine g_join 33 (fun a2 => []) (fun a2 => [.int a2]) (fun a2 => M) ?_ ?_
    · intro a2
      exact p_iret rfl dX9_runFault_33
    · intro k3 hk3
      refine g_icmp_le 32 (by decide) 28 rfl dX9_runFault_25 ?_ ?_
      · refine g_iconst 0 33 rfl dX9_runFault_32 (by decide) ?_
        refine g_sub [] [] rfl ?_
        exact hk3 0
      · refine g_iconst 3 29 rfl dX9_runFault_28 (by decide) ?_
        refine g_goto 33 (by decide) dX9_runFault_29 ?_
        refine g_sub [] [] rfl ?_
        exact hk3 3
def fX9_isGreen (M : Mem) (p0 : Int32) (p1 : Int32) : Option Int32 := clp (fX9_isWithin M p0 0 ((M 1 0) - 1)) (fun x1 => jn (fun (a2 : Int32) => grd (isb a2) (some a2)) (fun k3 => jn (fun (a4 : Unit) => k3 0) (fun k5 => if x1 = 0 then (k5 ()) else (clp (fX9_isWithin M p1 1 (M 1 0)) (fun x6 => if x6 = 0 then (k5 ()) else (k3 1))))))
set_option maxRecDepth 100000 in
set_option maxHeartbeats 4000000 in
theorem c_X9_isGreen {Ω : Wd} (l : Launch) (hO : OkW Ω) (hX : LX Ω)  (M : Mem) (p0 : Int32) (p1 : Int32) : ∀ r, fX9_isGreen M p0 p1 = some r → Ct l yX9_isGreen (.code yX9_isGreen cX9_isGreen 3 (some .boolean)) 1 22 Ω [.ref (wA Ω 0), .int p0, .int p1] M ((cpI M) r) := by
  refine ofG [(0, .ref (wA Ω 0)), (1, .int p0), (2, .int p1)] hO (by decide) rfl (Nat.le_of_ble_eq_true rfl) rfl ?_
  intro p e s m args below meth c
  unfold fX9_isGreen
  refine g_iload_n 1 rfl rfl 1 rfl dX9_isGreen_0 ?_
  refine g_iconst 0 2 rfl dX9_isGreen_1 (by decide) ?_
  refine g_aload_n 0 rfl rfl 3 rfl dX9_isGreen_2 ?_
  refine w_getR (lx_X hX) rfl in_X9 0 (by decide) wf_X9_12 1 rfl 6 rfl dX9_isGreen_3 ?_
  refine w_get (lx_S hX isS_1) rfl in_X6 0 (by decide) wf_X9_80 rfl 9 rfl dX9_isGreen_6 ?_
  refine g_iconst 1 10 rfl dX9_isGreen_9 (by decide) ?_
  refine g_isub 11 rfl dX9_isGreen_10 ?_
  refine p_cSI [.int p0, .int 0, .int ((M 1 0) - 1)] [] (c_X9_isWithin l hO M p0 0 ((M 1 0) - 1)) dX9_isGreen_11 us_X9_64 rfl yk_X9_isWithin ⟨by decide, by decide⟩ (Nat.le_of_ble_eq_true rfl) rfl 14 rfl ?_
  intro x1
  refine g_join 37 (fun a2 => []) (fun a2 => [.int a2]) (fun a2 => M) ?_ ?_
  · intro a2
    exact p_bret rfl dX9_isGreen_37
  · intro k3 hk3
    refine g_join 36 (fun a4 => []) (fun a4 => []) (fun a4 => M) ?_ ?_
    · intro a4
      refine g_iconst 0 37 rfl dX9_isGreen_36 (by decide) ?_
      exact hk3 0
    · intro k5 hk5
      refine g_if_eq 36 (by decide) 17 rfl dX9_isGreen_14 ?_ ?_
      · refine g_sub [] [] rfl ?_
        exact hk5 ()
      · refine g_iload_n 2 rfl rfl 18 rfl dX9_isGreen_17 ?_
        refine g_iconst 1 19 rfl dX9_isGreen_18 (by decide) ?_
        refine g_aload_n 0 rfl rfl 20 rfl dX9_isGreen_19 ?_
        refine w_getR (lx_X hX) rfl in_X9 0 (by decide) wf_X9_12 1 rfl 23 rfl dX9_isGreen_20 ?_
        refine w_get (lx_S hX isS_1) rfl in_X6 0 (by decide) wf_X9_80 rfl 26 rfl dX9_isGreen_23 ?_
        refine p_cSI [.int p1, .int 1, .int (M 1 0)] [] (c_X9_isWithin l hO M p1 1 (M 1 0)) dX9_isGreen_26 us_X9_64 rfl yk_X9_isWithin ⟨by decide, by decide⟩ (Nat.le_of_ble_eq_true rfl) rfl 29 rfl ?_
        intro x6
        refine g_if_eq 36 (by decide) 32 rfl dX9_isGreen_29 ?_ ?_
        · refine g_sub [] [] rfl ?_
          exact hk5 ()
        · refine g_iconst 1 33 rfl dX9_isGreen_32 (by decide) ?_
          refine g_goto 37 (by decide) dX9_isGreen_33 ?_
          refine g_sub [] [] rfl ?_
          exact hk3 1
def fX9_greenFault (M : Mem) (p0 : Int32) (p1 : Int32) (p2 : Int32) (p3 : Int32) (p4 : Int32) : Option (Int32 × Mem) := clpn (fX6_find M 1 p0) (some (1, M)) (fun o1 => grd (isJb o1) (clp (fX9_isPlan M p1) (fun x2 => if x2 = 0 then (some (1, M)) else (clp (fX2_hasGroup M o1 p2) (fun x3 => if x3 = 0 then (some (1, M)) else (clp (fX9_isGreen M p3 p4) (fun x4 => if x4 = 0 then (some (2, M)) else (clp (fX2_isChangePlanned M o1) (fun x5 => if x5 = 0 then (clp (fX2_reasonAgainstGreen M o1 p1 p2 p3 p4 (M 1 0)) (fun x6 => cl (fX9_faultOfReason M x6) (fun x7 M8 => some (x7, M8)))) else (some (3, M)))))))))))
set_option maxRecDepth 100000 in
set_option maxHeartbeats 4000000 in
theorem c_X9_greenFault {Ω : Wd} (l : Launch) (hO : OkW Ω) (hX : LX Ω)  (M : Mem) (p0 : Int32) (p1 : Int32) (p2 : Int32) (p3 : Int32) (p4 : Int32) : ∀ r, fX9_greenFault M p0 p1 p2 p3 p4 = some r → Ct l yX9_greenFault (.code yX9_greenFault cX9_greenFault 7 (some .int)) 4 105 Ω [.ref (wA Ω 0), .int p0, .int p1, .int p2, .int p3, .int p4] M (cvI r) := by
  refine ofG [(0, .ref (wA Ω 0)), (1, .int p0), (2, .int p1), (3, .int p2), (4, .int p3), (5, .int p4)] hO (by decide) rfl (Nat.le_of_ble_eq_true rfl) rfl ?_
  intro p e s m args below meth c
  unfold fX9_greenFault
  refine g_aload_n 0 rfl rfl 1 rfl dX9_greenFault_0 ?_
  refine w_getR (lx_X hX) rfl in_X9 0 (by decide) wf_X9_12 1 rfl 4 rfl dX9_greenFault_1 ?_
  refine g_iload_n 1 rfl rfl 5 rfl dX9_greenFault_4 ?_
  refine p_cVN 1 [.int p0] [] (c_X6_find l hO hX isS_1 M p0) dX9_greenFault_5 uv_X9_287 rfl yk_X6_find ⟨by decide, by decide⟩ (lx_S hX isS_1).1 (lx_S hX isS_1).2 rfl (Nat.le_of_ble_eq_true rfl) rfl 8 rfl ?_ ?_
  · refine g_astoreNA [(6, .null), (0, .ref (wA Ω 0)), (1, .int p0), (2, .int p1), (3, .int p2), (4, .int p3), (5, .int p4)] 10 rfl dX9_greenFault_8 (by decide) rfl ?_
    refine g_aloadN 0 rfl 12 rfl dX9_greenFault_10 ?_
    refine g_ifnullN 31 (by decide) dX9_greenFault_12 ?_
    refine g_iconst 1 32 rfl dX9_greenFault_31 (by decide) ?_
    exact g_iret rfl dX9_greenFault_32
  · intro o1
    refine g_grd (fun ho10 => ?_)
    have ho1 := isJb_of ho10
    refine g_astoreA [(6, .ref (wA Ω o1)), (0, .ref (wA Ω 0)), (1, .int p0), (2, .int p1), (3, .int p2), (4, .int p3), (5, .int p4)] 10 rfl dX9_greenFault_8 (by decide) rfl ?_
    refine g_aload 0 rfl 12 rfl dX9_greenFault_10 ?_
    refine g_ifnull 15 rfl dX9_greenFault_12 ?_
    refine g_iload_n 3 rfl rfl 16 rfl dX9_greenFault_15 ?_
    refine p_cSI [.int p1] [] (c_X9_isPlan l hO M p1) dX9_greenFault_16 us_X9_222 rfl yk_X9_isPlan ⟨by decide, by decide⟩ (Nat.le_of_ble_eq_true rfl) rfl 19 rfl ?_
    intro x2
    refine g_if_eq 31 (by decide) 22 rfl dX9_greenFault_19 ?_ ?_
    · refine g_iconst 1 32 rfl dX9_greenFault_31 (by decide) ?_
      exact g_iret rfl dX9_greenFault_32
    · refine g_aload 0 rfl 24 rfl dX9_greenFault_22 ?_
      refine g_iload_n 4 rfl rfl 25 rfl dX9_greenFault_24 ?_
      refine p_cVI o1 [.int p2] [] (c_X2_hasGroup l hO hX ho1 M p2) dX9_greenFault_25 uv_X9_188 rfl yk_X2_hasGroup ⟨by decide, by decide⟩ (lx_J hX ho1).1 (lx_J hX ho1).2 rfl (Nat.le_of_ble_eq_true rfl) rfl 28 rfl ?_
      intro x3
      refine g_if_ne 33 (by decide) 31 rfl dX9_greenFault_28 ?_ ?_
      · refine g_iconst 1 32 rfl dX9_greenFault_31 (by decide) ?_
        exact g_iret rfl dX9_greenFault_32
      · refine g_aload_n 1 rfl rfl 34 rfl dX9_greenFault_33 ?_
        refine g_iload 5 rfl 36 rfl dX9_greenFault_34 ?_
        refine g_iload 6 rfl 38 rfl dX9_greenFault_36 ?_
        refine p_cVI 0 [.int p3, .int p4] [] (c_X9_isGreen l hO hX M p3 p4) dX9_greenFault_38 uv_X9_225 rfl yk_X9_isGreen ⟨by decide, by decide⟩ (lx_X hX).1 (lx_X hX).2 rfl (Nat.le_of_ble_eq_true rfl) rfl 41 rfl ?_
        intro x4
        refine g_if_ne 46 (by decide) 44 rfl dX9_greenFault_41 ?_ ?_
        · refine g_iconst 2 45 rfl dX9_greenFault_44 (by decide) ?_
          exact g_iret rfl dX9_greenFault_45
        · refine g_aload 0 rfl 48 rfl dX9_greenFault_46 ?_
          refine p_cVI o1 [] [] (c_X2_isChangePlanned l hO hX ho1 M) dX9_greenFault_48 uv_X9_194 rfl yk_X2_isChangePlanned ⟨by decide, by decide⟩ (lx_J hX ho1).1 (lx_J hX ho1).2 rfl (Nat.le_of_ble_eq_true rfl) rfl 51 rfl ?_
          intro x5
          refine g_if_eq 56 (by decide) 54 rfl dX9_greenFault_51 ?_ ?_
          · refine g_aload_n 1 rfl rfl 57 rfl dX9_greenFault_56 ?_
            refine g_aload 0 rfl 59 rfl dX9_greenFault_57 ?_
            refine g_iload_n 3 rfl rfl 60 rfl dX9_greenFault_59 ?_
            refine g_iload_n 4 rfl rfl 61 rfl dX9_greenFault_60 ?_
            refine g_iload 5 rfl 63 rfl dX9_greenFault_61 ?_
            refine g_iload 6 rfl 65 rfl dX9_greenFault_63 ?_
            refine g_aload_n 1 rfl rfl 66 rfl dX9_greenFault_65 ?_
            refine w_getR (lx_X hX) rfl in_X9 0 (by decide) wf_X9_12 1 rfl 69 rfl dX9_greenFault_66 ?_
            refine w_get (lx_S hX isS_1) rfl in_X6 0 (by decide) wf_X9_80 rfl 72 rfl dX9_greenFault_69 ?_
            refine p_cVI o1 [.int p1, .int p2, .int p3, .int p4, .int (M 1 0)] [.ref (wA Ω 0)] (c_X2_reasonAgainstGreen l hO hX ho1 M p1 p2 p3 p4 (M 1 0)) dX9_greenFault_72 uv_X9_228 rfl yk_X2_reasonAgainstGreen ⟨by decide, by decide⟩ (lx_J hX ho1).1 (lx_J hX ho1).2 rfl (Nat.le_of_ble_eq_true rfl) rfl 75 rfl ?_
            intro x6
            refine g_cVI 0 [.int x6] [] (c_X9_faultOfReason l hO hX M x6) dX9_greenFault_75 uv_X9_202 rfl yk_X9_faultOfReason ⟨by decide, by decide⟩ (lx_X hX).1 (lx_X hX).2 rfl (Nat.le_of_ble_eq_true rfl) rfl 78 rfl ?_
            intro x7 M8
            exact g_iret rfl dX9_greenFault_78
          · refine g_iconst 3 55 rfl dX9_greenFault_54 (by decide) ?_
            exact g_iret rfl dX9_greenFault_55
def fX9_changeFault (M : Mem) (p0 : Int32) : Option Int32 := clpn (fX6_find M 1 p0) (some 1) (fun o1 => grd (isJb o1) (clp (fX2_isChangePlanned M o1) (fun x2 => if x2 = 0 then (clp (fX2_secondsToChange M o1 (M 1 2) (M 1 0)) (fun x3 => jn (fun (a4 : Int32) => some a4) (fun k5 => if x3 = (-1) then (k5 5) else (k5 0)))) else (some 3))))
set_option maxRecDepth 100000 in
set_option maxHeartbeats 4000000 in
theorem c_X9_changeFault {Ω : Wd} (l : Launch) (hO : OkW Ω) (hX : LX Ω)  (M : Mem) (p0 : Int32) : ∀ r, fX9_changeFault M p0 = some r → Ct l yX9_changeFault (.code yX9_changeFault cX9_changeFault 3 (some .int)) 5 121 Ω [.ref (wA Ω 0), .int p0] M ((cpI M) r) := by
  refine ofG [(0, .ref (wA Ω 0)), (1, .int p0)] hO (by decide) rfl (Nat.le_of_ble_eq_true rfl) rfl ?_
  intro p e s m args below meth c
  unfold fX9_changeFault
  refine g_aload_n 0 rfl rfl 1 rfl dX9_changeFault_0 ?_
  refine w_getR (lx_X hX) rfl in_X9 0 (by decide) wf_X9_12 1 rfl 4 rfl dX9_changeFault_1 ?_
  refine g_iload_n 1 rfl rfl 5 rfl dX9_changeFault_4 ?_
  refine p_cVN 1 [.int p0] [] (c_X6_find l hO hX isS_1 M p0) dX9_changeFault_5 uv_X9_287 rfl yk_X6_find ⟨by decide, by decide⟩ (lx_S hX isS_1).1 (lx_S hX isS_1).2 rfl (Nat.le_of_ble_eq_true rfl) rfl 8 rfl ?_ ?_
  · refine g_astore_nNA [(2, .null), (0, .ref (wA Ω 0)), (1, .int p0)] rfl 9 rfl dX9_changeFault_8 (by decide) rfl ?_
    refine g_aload_nN 0 rfl rfl 10 rfl dX9_changeFault_9 ?_
    refine g_ifnonnullN 13 rfl dX9_changeFault_10 ?_
    refine g_iconst 1 14 rfl dX9_changeFault_13 (by decide) ?_
    exact p_iret rfl dX9_changeFault_14
  · intro o1
    refine g_grd (fun ho10 => ?_)
    have ho1 := isJb_of ho10
    refine g_astore_nA [(2, .ref (wA Ω o1)), (0, .ref (wA Ω 0)), (1, .int p0)] rfl 9 rfl dX9_changeFault_8 (by decide) rfl ?_
    refine g_aload_n 0 rfl rfl 10 rfl dX9_changeFault_9 ?_
    refine g_ifnonnull 15 (by decide) dX9_changeFault_10 ?_
    refine g_aload_n 0 rfl rfl 16 rfl dX9_changeFault_15 ?_
    refine p_cVI o1 [] [] (c_X2_isChangePlanned l hO hX ho1 M) dX9_changeFault_16 uv_X9_194 rfl yk_X2_isChangePlanned ⟨by decide, by decide⟩ (lx_J hX ho1).1 (lx_J hX ho1).2 rfl (Nat.le_of_ble_eq_true rfl) rfl 19 rfl ?_
    intro x2
    refine g_if_eq 24 (by decide) 22 rfl dX9_changeFault_19 ?_ ?_
    · refine g_aload_n 0 rfl rfl 25 rfl dX9_changeFault_24 ?_
      refine g_aload_n 1 rfl rfl 26 rfl dX9_changeFault_25 ?_
      refine w_getR (lx_X hX) rfl in_X9 0 (by decide) wf_X9_12 1 rfl 29 rfl dX9_changeFault_26 ?_
      refine w_get (lx_S hX isS_1) rfl in_X6 2 (by decide) wf_X9_130 rfl 32 rfl dX9_changeFault_29 ?_
      refine g_aload_n 1 rfl rfl 33 rfl dX9_changeFault_32 ?_
      refine w_getR (lx_X hX) rfl in_X9 0 (by decide) wf_X9_12 1 rfl 36 rfl dX9_changeFault_33 ?_
      refine w_get (lx_S hX isS_1) rfl in_X6 0 (by decide) wf_X9_80 rfl 39 rfl dX9_changeFault_36 ?_
      refine p_cVI o1 [.int (M 1 2), .int (M 1 0)] [] (c_X2_secondsToChange l hO hX ho1 M (M 1 2) (M 1 0)) dX9_changeFault_39 uv_X9_305 rfl yk_X2_secondsToChange ⟨by decide, by decide⟩ (lx_J hX ho1).1 (lx_J hX ho1).2 rfl (Nat.le_of_ble_eq_true rfl) rfl 42 rfl ?_
      intro x3
      refine g_iconst (-1) 43 rfl dX9_changeFault_42 (by decide) ?_
      refine g_join 51 (fun a4 => []) (fun a4 => [.int a4]) (fun a4 => M) ?_ ?_
      · intro a4
        exact p_iret rfl dX9_changeFault_51
      · intro k5 hk5
        refine g_icmp_ne 50 (by decide) 46 rfl dX9_changeFault_43 ?_ ?_
        · refine g_iconst 5 47 rfl dX9_changeFault_46 (by decide) ?_
          refine g_goto 51 (by decide) dX9_changeFault_47 ?_
          refine g_sub [] [] rfl ?_
          exact hk5 5
        · refine g_iconst 0 51 rfl dX9_changeFault_50 (by decide) ?_
          refine g_sub [] [] rfl ?_
          exact hk5 0
    · refine g_iconst 3 23 rfl dX9_changeFault_22 (by decide) ?_
      exact p_iret rfl dX9_changeFault_23
