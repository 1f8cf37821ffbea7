def fX4_addSign (M : Mem) (p0 : Int32) : Option (Unit × Mem) := jn (fun (a1 : Mem) => some ((), a1)) (fun k2 => if 96 ≤ M 477 0 then (k2 M) else (grd (inb (M 477 0) 96) (bnd (mset M 478 (M 477 0).toNatClampNeg (vp_nar .char p0)) (fun M3 => bnd (mset M3 477 0 ((M3 477 0) + 1)) (fun M4 => k2 M4)))))
set_option maxRecDepth 100000 in
set_option maxHeartbeats 4000000 in
theorem c_X4_addSign {Ω : Wd} (l : Launch) (hO : OkW Ω) (hX : LX Ω)  (M : Mem) (p0 : Int32) : ∀ r, fX4_addSign M p0 = some r → Ct l yX4_addSign (.code yX4_addSign cX4_addSign 2 none) 0 0 Ω [.ref (wA Ω 477), .int p0] M (cvV r) := by
  refine ofG [(0, .ref (wA Ω 477)), (1, .int p0)] hO (by decide) rfl (Nat.le_of_ble_eq_true rfl) rfl ?_
  intro p e s m args below meth c
  unfold fX4_addSign
  refine g_aload_n 0 rfl rfl 1 rfl dX4_addSign_0 ?_
  refine w_get (lx_R hX) rfl in_X4 0 (by decide) wf_X4_21 rfl 4 rfl dX4_addSign_1 ?_
  refine g_bipush 96 6 rfl dX4_addSign_4 (by decide) ?_
  refine g_join 29 (fun a1 => []) (fun a1 => []) (fun a1 => a1) ?_ ?_
  · intro a1
    exact g_vret rfl dX4_addSign_29
  · intro k2 hk2
    refine g_icmp_ge 29 (by decide) 9 rfl dX4_addSign_6 ?_ ?_
    · refine g_sub [] [] rfl ?_
      exact hk2 M
    · refine g_aload_n 0 rfl rfl 10 rfl dX4_addSign_9 ?_
      refine w_getR (lx_R hX) rfl in_X4 1 (by decide) wf_X4_9 478 rfl 13 rfl dX4_addSign_10 ?_
      refine g_aload_n 0 rfl rfl 14 rfl dX4_addSign_13 ?_
      refine w_get (lx_R hX) rfl in_X4 0 (by decide) wf_X4_21 rfl 17 rfl dX4_addSign_14 ?_
      refine g_iload_n 1 rfl rfl 18 rfl dX4_addSign_17 ?_
      refine w_cast (lx_R1 hX) 19 rfl dX4_addSign_18 ?_
      intro M3
      refine g_aload_n 0 rfl rfl 20 rfl dX4_addSign_19 ?_
      refine g_dup 21 rfl dX4_addSign_20 rfl ?_
      refine w_get (lx_R hX) rfl in_X4 0 (by decide) wf_X4_21 rfl 24 rfl dX4_addSign_21 ?_
      refine g_iconst 1 25 rfl dX4_addSign_24 (by decide) ?_
      refine g_iadd 26 rfl dX4_addSign_25 ?_
      refine w_put (lx_R hX) rfl in_X4 0 (by decide) wf_X4_21 tyX4 tyX4_ok nmX4 rfl rfl rfl rfl 29 rfl dX4_addSign_26 ?_
      intro M4
      refine g_sub [] [] rfl ?_
      exact hk2 M4
def fX5_add (M : Mem) (p0 : Int32) : Option (Unit × Mem) := jn (fun (a1 : Mem) => some ((), a1)) (fun k2 => if p0 = 0 then (k2 M) else (if 60 ≤ M 472 0 then (k2 M) else (grd (inb (M 472 0) 60) (bnd (mset M 473 (M 472 0).toNatClampNeg (vp_nar .char p0)) (fun M3 => bnd (mset M3 472 0 ((M3 472 0) + 1)) (fun M4 => k2 M4))))))
set_option maxRecDepth 100000 in
set_option maxHeartbeats 4000000 in
theorem c_X5_add {Ω : Wd} (l : Launch) (hO : OkW Ω) (hX : LX Ω)  (M : Mem) (p0 : Int32) : ∀ r, fX5_add M p0 = some r → Ct l yX5_add (.code yX5_add cX5_add 2 none) 0 0 Ω [.ref (wA Ω 472), .int p0] M (cvV r) := by
  refine ofG [(0, .ref (wA Ω 472)), (1, .int p0)] hO (by decide) rfl (Nat.le_of_ble_eq_true rfl) rfl ?_
  intro p e s m args below meth c
  unfold fX5_add
  refine g_iload_n 1 rfl rfl 1 rfl dX5_add_0 ?_
  refine g_join 33 (fun a1 => []) (fun a1 => []) (fun a1 => a1) ?_ ?_
  · intro a1
    exact g_vret rfl dX5_add_33
  · intro k2 hk2
    refine g_if_eq 33 (by decide) 4 rfl dX5_add_1 ?_ ?_
    · refine g_sub [] [] rfl ?_
      exact hk2 M
    · refine g_aload_n 0 rfl rfl 5 rfl dX5_add_4 ?_
      refine w_get (lx_C hX) rfl in_X5 0 (by decide) wf_X5_28 rfl 8 rfl dX5_add_5 ?_
      refine g_bipush 60 10 rfl dX5_add_8 (by decide) ?_
      refine g_icmp_ge 33 (by decide) 13 rfl dX5_add_10 ?_ ?_
      · refine g_sub [] [] rfl ?_
        exact hk2 M
      · refine g_aload_n 0 rfl rfl 14 rfl dX5_add_13 ?_
        refine w_getR (lx_C hX) rfl in_X5 4 (by decide) wf_X5_9 473 rfl 17 rfl dX5_add_14 ?_
        refine g_aload_n 0 rfl rfl 18 rfl dX5_add_17 ?_
        refine w_get (lx_C hX) rfl in_X5 0 (by decide) wf_X5_28 rfl 21 rfl dX5_add_18 ?_
        refine g_iload_n 1 rfl rfl 22 rfl dX5_add_21 ?_
        refine w_cast (lx_C1 hX) 23 rfl dX5_add_22 ?_
        intro M3
        refine g_aload_n 0 rfl rfl 24 rfl dX5_add_23 ?_
        refine g_dup 25 rfl dX5_add_24 rfl ?_
        refine w_get (lx_C hX) rfl in_X5 0 (by decide) wf_X5_28 rfl 28 rfl dX5_add_25 ?_
        refine g_iconst 1 29 rfl dX5_add_28 (by decide) ?_
        refine g_iadd 30 rfl dX5_add_29 ?_
        refine w_put (lx_C hX) rfl in_X5 0 (by decide) wf_X5_28 tyX5 tyX5_ok nmX5 rfl rfl rfl rfl 33 rfl dX5_add_30 ?_
        intro M4
        refine g_sub [] [] rfl ?_
        exact hk2 M4
def fX5_numberAt (M : Mem) (p0 : Int32) (p1 : Int32) : Option Int32 := grd (inb ((p0 * 5) + p1) 50) (some (M 476 ((p0 * 5) + p1).toNatClampNeg))
set_option maxRecDepth 100000 in
set_option maxHeartbeats 4000000 in
theorem c_X5_numberAt {Ω : Wd} (l : Launch) (hO : OkW Ω) (hX : LX Ω)  (M : Mem) (p0 : Int32) (p1 : Int32) : ∀ r, fX5_numberAt M p0 p1 = some r → Ct l yX5_numberAt (.code yX5_numberAt cX5_numberAt 3 (some .int)) 0 0 Ω [.ref (wA Ω 472), .int p0, .int p1] M ((cpI M) r) := by
  refine ofG [(0, .ref (wA Ω 472)), (1, .int p0), (2, .int p1)] hO (by decide) rfl (Nat.le_of_ble_eq_true rfl) rfl ?_
  intro p e s m args below meth c
  unfold fX5_numberAt
  refine g_aload_n 0 rfl rfl 1 rfl dX5_numberAt_0 ?_
  refine w_getR (lx_C hX) rfl in_X5 7 (by decide) wf_X5_25 476 rfl 4 rfl dX5_numberAt_1 ?_
  refine g_iload_n 1 rfl rfl 5 rfl dX5_numberAt_4 ?_
  refine g_iconst 5 6 rfl dX5_numberAt_5 (by decide) ?_
  refine g_imul 7 rfl dX5_numberAt_6 ?_
  refine g_iload_n 2 rfl rfl 8 rfl dX5_numberAt_7 ?_
  refine g_iadd 9 rfl dX5_numberAt_8 ?_
  refine w_iald (lx_C4 hX) 10 rfl dX5_numberAt_9 ?_
  exact p_iret rfl dX5_numberAt_10
def fX4_addNumber_L1 (p0 : Int32) (k2 : (Int32 × Mem) → Option (Unit × Mem)) (a1 : Int32 × Mem) : Option (Unit × Mem) := if a1.1 ≤ 0 then (some ((), a1.2)) else (jn (fun (a3 : Mem) => grd (nz 10) (bnd (a1.1 / 10) (fun x5 => k2 (x5, a3)))) (fun k4 => jn (fun (a6 : Unit) => grd (nz a1.1) (grd (nz 10) (cl (fX4_addSign a1.2 (((48 + ((p0 / a1.1) - (p0 / a1.1) / 10 * 10)).toUInt32 % 65536).toInt32)) (fun u8 M9 => k4 M9)))) (fun k7 => if a1.1 ≤ p0 then (k7 ()) else (if a1.1 = 1 then (k7 ()) else (k4 a1.2)))))
def fX4_addNumber (M : Mem) (p0 : Int32) : Option (Unit × Mem) := lp (fX4_addNumber_L1 p0) FU (1000, M)
set_option maxRecDepth 100000 in
set_option maxHeartbeats 4000000 in
theorem c_X4_addNumber {Ω : Wd} (l : Launch) (hO : OkW Ω) (hX : LX Ω)  (M : Mem) (p0 : Int32) : ∀ r, fX4_addNumber M p0 = some r → Ct l yX4_addNumber (.code yX4_addNumber cX4_addNumber 3 none) 1 21 Ω [.ref (wA Ω 477), .int p0] M (cvV r) := by
  refine ofG [(0, .ref (wA Ω 477)), (1, .int p0)] hO (by decide) rfl (Nat.le_of_ble_eq_true rfl) rfl ?_
  intro p e s m args below meth c
  unfold fX4_addNumber
  refine g_sipush 1000 3 rfl dX4_addNumber_0 (by decide) ?_
  refine g_istore_nA [(2, .int 1000), (0, .ref (wA Ω 477)), (1, .int p0)] rfl 4 rfl dX4_addNumber_3 (by decide) rfl ?_
  refine g_sub [(0, .ref (wA Ω 477)), (1, .int p0), (2, .int 1000)] [1, 2, 0] rfl ?_
  refine g_loop 4 (fun a1 => [(0, .ref (wA Ω 477)), (1, .int p0), (2, .int a1.1)]) (fun _ => []) (fun a1 => a1.2) ?_ FU (1000, M)
  intro k2 hk2 a1
  unfold fX4_addNumber_L1
  refine g_iload_n 2 rfl rfl 5 rfl dX4_addNumber_4 ?_
  refine g_if_le 40 (by decide) 8 rfl dX4_addNumber_5 ?_ ?_
  · exact g_vret rfl dX4_addNumber_40
  · refine g_iload_n 1 rfl rfl 9 rfl dX4_addNumber_8 ?_
    refine g_iload_n 2 rfl rfl 10 rfl dX4_addNumber_9 ?_
    refine g_join 32 (fun a3 => [(0, .ref (wA Ω 477)), (1, .int p0), (2, .int a1.1)]) (fun a3 => []) (fun a3 => a3) ?_ ?_
    · intro a3
      refine g_iload_n 2 rfl rfl 33 rfl dX4_addNumber_32 ?_
      refine g_bipush 10 35 rfl dX4_addNumber_33 (by decide) ?_
      refine g_idiv 36 rfl dX4_addNumber_35 ?_
      refine g_istore_n (fun x5 => [(2, .int x5), (0, .ref (wA Ω 477)), (1, .int p0)]) rfl 37 rfl dX4_addNumber_36 (by decide) (fun _ => rfl) ?_
      intro x5
      refine g_goto 4 (by decide) dX4_addNumber_37 ?_
      refine g_sub [(0, .ref (wA Ω 477)), (1, .int p0), (2, .int x5)] [1, 2, 0] rfl ?_
      exact hk2 (x5, a3)
    · intro k4 hk4
      refine g_join 18 (fun a6 => [(0, .ref (wA Ω 477)), (1, .int p0), (2, .int a1.1)]) (fun a6 => []) (fun a6 => a1.2) ?_ ?_
      · intro a6
        refine g_aload_n 0 rfl rfl 19 rfl dX4_addNumber_18 ?_
        refine g_bipush 48 21 rfl dX4_addNumber_19 (by decide) ?_
        refine g_iload_n 1 rfl rfl 22 rfl dX4_addNumber_21 ?_
        refine g_iload_n 2 rfl rfl 23 rfl dX4_addNumber_22 ?_
        refine g_idiv 24 rfl dX4_addNumber_23 ?_
        refine g_bipush 10 26 rfl dX4_addNumber_24 (by decide) ?_
        refine g_irem 27 rfl dX4_addNumber_26 ?_
        refine g_iadd 28 rfl dX4_addNumber_27 ?_
        refine g_i2c 29 rfl dX4_addNumber_28 ?_
        refine g_cVV 477 [.int (((48 + ((p0 / a1.1) - (p0 / a1.1) / 10 * 10)).toUInt32 % 65536).toInt32)] [] (c_X4_addSign l hO hX a1.2 (((48 + ((p0 / a1.1) - (p0 / a1.1) / 10 * 10)).toUInt32 % 65536).toInt32)) dX4_addNumber_29 uv_X4_69 rfl yk_X4_addSign ⟨by decide, by decide⟩ (lx_R hX).1 (lx_R hX).2 rfl (Nat.le_of_ble_eq_true rfl) rfl 32 rfl ?_
        intro u8 M9
        exact hk4 M9
      · intro k7 hk7
        refine g_icmp_ge 18 (by decide) 13 rfl dX4_addNumber_10 ?_ ?_
        · exact hk7 ()
        · refine g_iload_n 2 rfl rfl 14 rfl dX4_addNumber_13 ?_
          refine g_iconst 1 15 rfl dX4_addNumber_14 (by decide) ?_
          refine g_icmp_ne 32 (by decide) 18 rfl dX4_addNumber_15 ?_ ?_
          · exact hk7 ()
          · exact hk4 a1.2
def fX5_isNextWithin (M : Mem) (p0 : Int32) (p1 : Int32) : Option Int32 := jn (fun (a1 : Int32) => grd (isb a1) (some a1)) (fun k2 => jn (fun (a3 : Unit) => k2 0) (fun k4 => if M 472 0 ≤ M 472 2 then (k4 ()) else (if 60 ≤ M 472 2 then (k4 ()) else (grd (inb (M 472 2) 60) (clp (fX9_isWithin M (M 473 (M 472 2).toNatClampNeg) p0 p1) (fun x5 => if x5 = 0 then (k4 ()) else (k2 1)))))))
set_option maxRecDepth 100000 in
set_option maxHeartbeats 4000000 in
theorem c_X5_isNextWithin {Ω : Wd} (l : Launch) (hO : OkW Ω) (hX : LX Ω)  (M : Mem) (p0 : Int32) (p1 : Int32) : ∀ r, fX5_isNextWithin M p0 p1 = some r → Ct l yX5_isNextWithin (.code yX5_isNextWithin cX5_isNextWithin 3 (some .boolean)) 1 22 Ω [.ref (wA Ω 472), .int p0, .int p1] M ((cpI M) r) := by
  refine ofG [(0, .ref (wA Ω 472)), (1, .int p0), (2, .int p1)] hO (by decide) rfl (Nat.le_of_ble_eq_true rfl) rfl ?_
  intro p e s m args below meth c
  unfold fX5_isNextWithin
  refine g_aload_n 0 rfl rfl 1 rfl dX5_isNextWithin_0 ?_
  refine w_get (lx_C hX) rfl in_X5 2 (by decide) wf_X5_32 rfl 4 rfl dX5_isNextWithin_1 ?_
  refine g_aload_n 0 rfl rfl 5 rfl dX5_isNextWithin_4 ?_
  refine w_get (lx_C hX) rfl in_X5 0 (by decide) wf_X5_28 rfl 8 rfl dX5_isNextWithin_5 ?_
  refine g_join 42 (fun a1 => []) (fun a1 => [.int a1]) (fun a1 => M) ?_ ?_
  · intro a1
    exact p_bret rfl dX5_isNextWithin_42
  · intro k2 hk2
    refine g_join 41 (fun a3 => []) (fun a3 => []) (fun a3 => M) ?_ ?_
    · intro a3
      refine g_iconst 0 42 rfl dX5_isNextWithin_41 (by decide) ?_
      exact hk2 0
    · intro k4 hk4
      refine g_icmp_ge 41 (by decide) 11 rfl dX5_isNextWithin_8 ?_ ?_
      · refine g_sub [] [] rfl ?_
        exact hk4 ()
      · refine g_aload_n 0 rfl rfl 12 rfl dX5_isNextWithin_11 ?_
        refine w_get (lx_C hX) rfl in_X5 2 (by decide) wf_X5_32 rfl 15 rfl dX5_isNextWithin_12 ?_
        refine g_bipush 60 17 rfl dX5_isNextWithin_15 (by decide) ?_
        refine g_icmp_ge 41 (by decide) 20 rfl dX5_isNextWithin_17 ?_ ?_
        · refine g_sub [] [] rfl ?_
          exact hk4 ()
        · refine g_aload_n 0 rfl rfl 21 rfl dX5_isNextWithin_20 ?_
          refine w_getR (lx_C hX) rfl in_X5 4 (by decide) wf_X5_9 473 rfl 24 rfl dX5_isNextWithin_21 ?_
          refine g_aload_n 0 rfl rfl 25 rfl dX5_isNextWithin_24 ?_
          refine w_get (lx_C hX) rfl in_X5 2 (by decide) wf_X5_32 rfl 28 rfl dX5_isNextWithin_25 ?_
          refine w_cald (lx_C1 hX) 29 rfl dX5_isNextWithin_28 ?_
          refine g_iload_n 1 rfl rfl 30 rfl dX5_isNextWithin_29 ?_
          refine g_iload_n 2 rfl rfl 31 rfl dX5_isNextWithin_30 ?_
          refine p_cSNI [.int (M 473 (M 472 2).toNatClampNeg), .int p0, .int p1] [] (c_X9_isWithin l hO M (M 473 (M 472 2).toNatClampNeg) p0 p1) dX5_isNextWithin_31 wk_X5_82 ws_X9_isWithin wn_X9 wc_X9_isWithin yk_X9_isWithin ⟨by decide, by decide⟩ (Nat.le_of_ble_eq_true rfl) rfl 34 rfl ?_
          intro x5
          refine g_if_eq 41 (by decide) 37 rfl dX5_isNextWithin_34 ?_ ?_
          · refine g_sub [] [] rfl ?_
            exact hk4 ()
          · refine g_iconst 1 38 rfl dX5_isNextWithin_37 (by decide) ?_
            refine g_goto 42 (by decide) dX5_isNextWithin_38 ?_
            refine g_sub [] [] rfl ?_
            exact hk2 1
def fX5_readSign (M : Mem) (p0 : Int32) : Option (Unit × Mem) := jn (fun (a1 : Mem) => some ((), a1)) (fun k2 => if M 472 3 = (-1) then (clp (fX5_isNextWithin M p0 p0) (fun x3 => if x3 = 0 then (bnd (mset M 472 3 (M 472 2)) (fun M4 => k2 M4)) else (bnd (mset M 472 2 ((M 472 2) + 1)) (fun M5 => k2 M5)))) else (k2 M))
set_option maxRecDepth 100000 in
set_option maxHeartbeats 4000000 in
theorem c_X5_readSign {Ω : Wd} (l : Launch) (hO : OkW Ω) (hX : LX Ω)  (M : Mem) (p0 : Int32) : ∀ r, fX5_readSign M p0 = some r → Ct l yX5_readSign (.code yX5_readSign cX5_readSign 2 none) 2 44 Ω [.ref (wA Ω 472), .int p0] M (cvV r) := by
  refine ofG [(0, .ref (wA Ω 472)), (1, .int p0)] hO (by decide) rfl (Nat.le_of_ble_eq_true rfl) rfl ?_
  intro p e s m args below meth c
  unfold fX5_readSign
  refine g_aload_n 0 rfl rfl 1 rfl dX5_readSign_0 ?_
  refine w_get (lx_C hX) rfl in_X5 3 (by decide) wf_X5_38 rfl 4 rfl dX5_readSign_1 ?_
  refine g_iconst (-1) 5 rfl dX5_readSign_4 (by decide) ?_
  refine g_join 38 (fun a1 => []) (fun a1 => []) (fun a1 => a1) ?_ ?_
  · intro a1
    exact g_vret rfl dX5_readSign_38
  · intro k2 hk2
    refine g_icmp_ne 38 (by decide) 8 rfl dX5_readSign_5 ?_ ?_
    · refine g_aload_n 0 rfl rfl 9 rfl dX5_readSign_8 ?_
      refine g_iload_n 1 rfl rfl 10 rfl dX5_readSign_9 ?_
      refine g_iload_n 1 rfl rfl 11 rfl dX5_readSign_10 ?_
      refine p_cVI 472 [.int p0, .int p0] [] (c_X5_isNextWithin l hO hX M p0 p0) dX5_readSign_11 uv_X5_59 rfl yk_X5_isNextWithin ⟨by decide, by decide⟩ (lx_C hX).1 (lx_C hX).2 rfl (Nat.le_of_ble_eq_true rfl) rfl 14 rfl ?_
      intro x3
      refine g_if_eq 30 (by decide) 17 rfl dX5_readSign_14 ?_ ?_
      · refine g_aload_n 0 rfl rfl 31 rfl dX5_readSign_30 ?_
        refine g_aload_n 0 rfl rfl 32 rfl dX5_readSign_31 ?_
        refine w_get (lx_C hX) rfl in_X5 2 (by decide) wf_X5_32 rfl 35 rfl dX5_readSign_32 ?_
        refine w_put (lx_C hX) rfl in_X5 3 (by decide) wf_X5_38 tyX5 tyX5_ok nmX5 rfl rfl rfl rfl 38 rfl dX5_readSign_35 ?_
        intro M4
        refine g_sub [] [] rfl ?_
        exact hk2 M4
      · refine g_aload_n 0 rfl rfl 18 rfl dX5_readSign_17 ?_
        refine g_dup 19 rfl dX5_readSign_18 rfl ?_
        refine w_get (lx_C hX) rfl in_X5 2 (by decide) wf_X5_32 rfl 22 rfl dX5_readSign_19 ?_
        refine g_iconst 1 23 rfl dX5_readSign_22 (by decide) ?_
        refine g_iadd 24 rfl dX5_readSign_23 ?_
        refine w_put (lx_C hX) rfl in_X5 2 (by decide) wf_X5_32 tyX5 tyX5_ok nmX5 rfl rfl rfl rfl 27 rfl dX5_readSign_24 ?_
        intro M5
        refine g_goto 38 (by decide) dX5_readSign_27 ?_
        refine g_sub [] [] rfl ?_
        exact hk2 M5
    · refine g_sub [] [] rfl ?_
      exact hk2 M
def fX5_readNumber_L1 (k2 : (Int32 × Int32 × Mem) → Option (Int32 × Mem)) (k7 : (Int32 × Int32 × Mem) → Option (Int32 × Mem)) (a6 : Int32 × Int32 × Mem) : Option (Int32 × Mem) := if a6.2.2 472 3 = (-1) then (if 4 ≤ a6.2.1 then (k2 (a6.1, a6.2.1, a6.2.2)) else (jn (fun (a8 : Unit) => clp (fX5_isNextWithin a6.2.2 48 57) (fun x10 => if x10 = 0 then (k2 (a6.1, a6.2.1, a6.2.2)) else (grd (inb (a6.2.2 472 2) 60) (bnd (((10 * a6.1) + (a6.2.2 473 (a6.2.2 472 2).toNatClampNeg)) - 48) (fun x11 => bnd (a6.2.1 + 1) (fun x12 => bnd (mset a6.2.2 472 2 ((a6.2.2 472 2) + 1)) (fun M13 => k7 (x11, x12, M13)))))))) (fun k9 => if a6.2.1 ≤ 0 then (k9 ()) else (if a6.1 = 0 then (k2 (a6.1, a6.2.1, a6.2.2)) else (k9 ()))))) else (k2 (a6.1, a6.2.1, a6.2.2))
def fX5_readNumber (M : Mem)  : Option (Int32 × Mem) := jn (fun (a1 : Int32 × Int32 × Mem) => jn (fun (a3 : Mem) => some (a1.1, a3)) (fun k4 => if a1.2.2 472 3 = (-1) then (if a1.2.1 = 0 then (bnd (mset a1.2.2 472 3 (a1.2.2 472 2)) (fun M5 => k4 M5)) else (k4 a1.2.2)) else (k4 a1.2.2))) (fun k2 => lp (fX5_readNumber_L1 k2) FU (0, 0, M))
set_option maxRecDepth 100000 in
set_option maxHeartbeats 4000000 in
theorem c_X5_readNumber {Ω : Wd} (l : Launch) (hO : OkW Ω) (hX : LX Ω)  (M : Mem)  : ∀ r, fX5_readNumber M  = some r → Ct l yX5_readNumber (.code yX5_readNumber cX5_readNumber 3 (some .int)) 2 44 Ω [.ref (wA Ω 472)] M (cvI r) := by
  refine ofG [(0, .ref (wA Ω 472))] hO (by decide) rfl (Nat.le_of_ble_eq_true rfl) rfl ?_
  intro p e s m args below meth c
  unfold fX5_readNumber
  refine g_iconst 0 1 rfl dX5_readNumber_0 (by decide) ?_
  refine g_istore_nA [(1, .int 0), (0, .ref (wA Ω 472))] rfl 2 rfl dX5_readNumber_1 (by decide) rfl ?_
  refine g_iconst 0 3 rfl dX5_readNumber_2 (by decide) ?_
  refine g_istore_nA [(2, .int 0), (1, .int 0), (0, .ref (wA Ω 472))] rfl 4 rfl dX5_readNumber_3 (by decide) rfl ?_
  refine g_join 70 (fun a1 => [(0, .ref (wA Ω 472)), (1, .int a1.1), (2, .int a1.2.1)]) (fun a1 => []) (fun a1 => a1.2.2) ?_ ?_
  · intro a1
    refine g_aload_n 0 rfl rfl 71 rfl dX5_readNumber_70 ?_
    refine w_get (lx_C hX) rfl in_X5 3 (by decide) wf_X5_38 rfl 74 rfl dX5_readNumber_71 ?_
    refine g_iconst (-1) 75 rfl dX5_readNumber_74 (by decide) ?_
    refine g_join 90 (fun a3 => [(1, .int a1.1)]) (fun a3 => []) (fun a3 => a3) ?_ ?_
    · intro a3
      refine g_iload_n 0 rfl rfl 91 rfl dX5_readNumber_90 ?_
      exact g_iret rfl dX5_readNumber_91
    · intro k4 hk4
      refine g_icmp_ne 90 (by decide) 78 rfl dX5_readNumber_75 ?_ ?_
      · refine g_iload_n 2 rfl rfl 79 rfl dX5_readNumber_78 ?_
        refine g_if_ne 90 (by decide) 82 rfl dX5_readNumber_79 ?_ ?_
        · refine g_aload_n 0 rfl rfl 83 rfl dX5_readNumber_82 ?_
          refine g_aload_n 0 rfl rfl 84 rfl dX5_readNumber_83 ?_
          refine w_get (lx_C hX) rfl in_X5 2 (by decide) wf_X5_32 rfl 87 rfl dX5_readNumber_84 ?_
          refine w_put (lx_C hX) rfl in_X5 3 (by decide) wf_X5_38 tyX5 tyX5_ok nmX5 rfl rfl rfl rfl 90 rfl dX5_readNumber_87 ?_
          intro M5
          refine g_sub [(1, .int a1.1)] [1] rfl ?_
          exact hk4 M5
        · refine g_sub [(1, .int a1.1)] [1] rfl ?_
          exact hk4 a1.2.2
      · refine g_sub [(1, .int a1.1)] [1] rfl ?_
        exact hk4 a1.2.2
  · intro k2 hk2
    refine g_sub [(0, .ref (wA Ω 472)), (1, .int 0), (2, .int 0)] [2, 1, 0] rfl ?_
    refine g_loop 4 (fun a6 => [(0, .ref (wA Ω 472)), (1, .int a6.1), (2, .int a6.2.1)]) (fun _ => []) (fun a6 => a6.2.2) ?_ FU (0, 0, M)
    intro k7 hk7 a6
    unfold fX5_readNumber_L1
    refine g_aload_n 0 rfl rfl 5 rfl dX5_readNumber_4 ?_
    refine w_get (lx_C hX) rfl in_X5 3 (by decide) wf_X5_38 rfl 8 rfl dX5_readNumber_5 ?_
    refine g_iconst (-1) 9 rfl dX5_readNumber_8 (by decide) ?_
    refine g_icmp_ne 70 (by decide) 12 rfl dX5_readNumber_9 ?_ ?_
    · refine g_iload_n 2 rfl rfl 13 rfl dX5_readNumber_12 ?_
      refine g_iconst 4 14 rfl dX5_readNumber_13 (by decide) ?_
      refine g_icmp_ge 70 (by decide) 17 rfl dX5_readNumber_14 ?_ ?_
      · exact hk2 (a6.1, a6.2.1, a6.2.2)
      · refine g_iload_n 2 rfl rfl 18 rfl dX5_readNumber_17 ?_
        refine g_join 25 (fun a8 => [(0, .ref (wA Ω 472)), (1, .int a6.1), (2, .int a6.2.1)]) (fun a8 => []) (fun a8 => a6.2.2) ?_ ?_
        · intro a8
          refine g_aload_n 0 rfl rfl 26 rfl dX5_readNumber_25 ?_
          refine g_bipush 48 28 rfl dX5_readNumber_26 (by decide) ?_
          refine g_bipush 57 30 rfl dX5_readNumber_28 (by decide) ?_
          refine p_cVI 472 [.int 48, .int 57] [] (c_X5_isNextWithin l hO hX a6.2.2 48 57) dX5_readNumber_30 uv_X5_59 rfl yk_X5_isNextWithin ⟨by decide, by decide⟩ (lx_C hX).1 (lx_C hX).2 rfl (Nat.le_of_ble_eq_true rfl) rfl 33 rfl ?_
          intro x10
          refine g_if_eq 70 (by decide) 36 rfl dX5_readNumber_33 ?_ ?_
          · exact hk2 (a6.1, a6.2.1, a6.2.2)
          · refine g_bipush 10 38 rfl dX5_readNumber_36 (by decide) ?_
            refine g_iload_n 1 rfl rfl 39 rfl dX5_readNumber_38 ?_
            refine g_imul 40 rfl dX5_readNumber_39 ?_
            refine g_aload_n 0 rfl rfl 41 rfl dX5_readNumber_40 ?_
            refine w_getR (lx_C hX) rfl in_X5 4 (by decide) wf_X5_9 473 rfl 44 rfl dX5_readNumber_41 ?_
            refine g_aload_n 0 rfl rfl 45 rfl dX5_readNumber_44 ?_
            refine w_get (lx_C hX) rfl in_X5 2 (by decide) wf_X5_32 rfl 48 rfl dX5_readNumber_45 ?_
            refine w_cald (lx_C1 hX) 49 rfl dX5_readNumber_48 ?_
            refine g_iadd 50 rfl dX5_readNumber_49 ?_
            refine g_bipush 48 52 rfl dX5_readNumber_50 (by decide) ?_
            refine g_isub 53 rfl dX5_readNumber_52 ?_
            refine g_istore_n (fun x11 => [(1, .int x11), (0, .ref (wA Ω 472)), (2, .int a6.2.1)]) rfl 54 rfl dX5_readNumber_53 (by decide) (fun _ => rfl) ?_
            intro x11
            refine g_iinc 2 rfl 1 (by decide) (fun x12 => [(2, .int x12), (1, .int x11), (0, .ref (wA Ω 472))]) 57 rfl dX5_readNumber_54 (by decide) (fun _ => rfl) ?_
            intro x12
            refine g_aload_n 2 rfl rfl 58 rfl dX5_readNumber_57 ?_
            refine g_dup 59 rfl dX5_readNumber_58 rfl ?_
            refine w_get (lx_C hX) rfl in_X5 2 (by decide) wf_X5_32 rfl 62 rfl dX5_readNumber_59 ?_
            refine g_iconst 1 63 rfl dX5_readNumber_62 (by decide) ?_
            refine g_iadd 64 rfl dX5_readNumber_63 ?_
            refine w_put (lx_C hX) rfl in_X5 2 (by decide) wf_X5_32 tyX5 tyX5_ok nmX5 rfl rfl rfl rfl 67 rfl dX5_readNumber_64 ?_
            intro M13
            refine g_goto 4 (by decide) dX5_readNumber_67 ?_
            refine g_sub [(0, .ref (wA Ω 472)), (1, .int x11), (2, .int x12)] [2, 1, 0] rfl ?_
            exact hk7 (x11, x12, M13)
        · intro k9 hk9
          refine g_if_le 25 (by decide) 21 rfl dX5_readNumber_18 ?_ ?_
          · exact hk9 ()
          · refine g_iload_n 1 rfl rfl 22 rfl dX5_readNumber_21 ?_
            refine g_if_eq 70 (by decide) 25 rfl dX5_readNumber_22 ?_ ?_
            · exact hk2 (a6.1, a6.2.1, a6.2.2)
            · exact hk9 ()
    · exact hk2 (a6.1, a6.2.1, a6.2.2)
