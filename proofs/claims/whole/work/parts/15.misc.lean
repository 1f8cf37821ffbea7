def fX4_addSign (M : Mem) (p0 : Int32) : Option (Unit × Mem) := jn (fun (a1 : Mem) => some ((), a1)) (fun k2 => if 96 ≤ M 477 0 then (k2 M) else (grd (inb (M 477 0) 96) (bnd (mset M 478 (M 477 0).toNatClampNeg (vp_nar .char p0)) (fun M3 => bnd (mset M3 477 0 ((M3 477 0) + 1)) (fun M4 => k2 M4)))))
set_option maxRecDepth 100000 in
set_option maxHeartbeats 4000000 in
theorem c_X4_addSign {Ω : Wd} (l : Launch) (hO : OkW Ω) (hX : LX Ω)  (M : Mem) (p0 : Int32) : ∀ r, fX4_addSign M p0 = some r → Ct l yX4_addSign (.code yX4_addSign cX4_addSign 2 none) 0 0 Ω [.ref (wA Ω 477), .int p0] M (cvV r) := by
  refine ofG [(0, .ref (wA Ω 477)), (1, .int p0)] hO (by decide) rfl (Nat.le_of_ble_eq_true rfl) rfl ?_
  intro p e s m args below meth c
  unfold fX4_addSign
  refine g_aload_n 0 rfl rfl 1 rfl dX4_addSign_0 ?_
  refine w_get (lx_R hX) rfl in_X4 0 (by decide) wf_X4_21 rfl 4 rfl dX4_addSign_1 ?_
  refine g_bipush 96 6 rfl dX4_addSign_4 (by decide) ?_
  refine g_join 29 (fun a1 => []) (fun a1 => []) (fun a1 => a1) ?_ ?_
  · intro a1
    exact g_vret rfl dX4_addSign_29
  · intro k2 hk2
    refine g_icmp_ge 29 (by decide) 9 rfl dX4_addSign_6 ?_ ?_
    · refine g_sub [] [] rfl ?_
      exact hk2 M
    · refine g_aload_n 0 rfl rfl 10 rfl dX4_addSign_9 ?_
      refine w_getR (lx_R hX) rfl in_X4 1 (by decide) wf_X4_9 478 rfl 13 rfl dX4_addSign_10 ?_
      refine g_aload_n 0 rfl rfl 14 rfl dX4_addSign_13 ?_
      refine w_get (lx_R hX) rfl in_X4 0 (by decide) wf_X4_21 rfl 17 rfl dX4_addSign_14 ?_
      refine g_iload_n 1 rfl rfl 18 rfl dX4_addSign_17 ?_
      refine w_cast (lx_R1 hX) 19 rfl dX4_addSign_18 ?_
      intro M3
      refine g_aload_n 0 rfl rfl 20 rfl dX4_addSign_19 ?_
      refine g_dup 21 rfl dX4_addSign_20 rfl ?_
      refine w_get (lx_R hX) rfl in_X4 0 (by decide) wf_X4_21 rfl 24 rfl dX4_addSign_21 ?_
      refine g_iconst 1 25 rfl dX4_addSign_24 (by decide) ?_
      refine g_iadd 26 rfl dX4_addSign_25 ?_
      refine w_put (lx_R hX) rfl in_X4 0 (by decide) wf_X4_21 tyX4 tyX4_ok nmX4 rfl rfl rfl rfl 29 rfl dX4_addSign_26 ?_
      intro M4
      refine g_sub [] [] rfl ?_
      exact hk2 M4
def fX5_add (M : Mem) (p0 : Int32) : Option (Unit × Mem) := jn (fun (a1 : Mem) => some ((), a1)) (fun k2 => if p0 = 0 then (k2 M) else (if 60 ≤ M 472 0 then (k2 M) else (grd (inb (M 472 0) 60) (bnd (mset M 473 (M 472 0).toNatClampNeg (vp_nar .char p0)) (fun M3 => bnd (mset M3 472 0 ((M3 472 0) + 1)) (fun M4 => k2 M4))))))
set_option maxRecDepth 100000 in
set_option maxHeartbeats 4000000 in
theorem c_X5_add {Ω : Wd} (l : Launch) (hO : OkW Ω) (hX : LX Ω)  (M : Mem) (p0 : Int32) : ∀ r, fX5_add M p0 = some r → Ct l yX5_add (.code yX5_add cX5_add 2 none) 0 0 Ω [.ref (wA Ω 472), .int p0] M (cvV r) := by
  refine ofG [(0, .ref (wA Ω 472)), (1, .int p0)] hO (by decide) rfl (Nat.le_of_ble_eq_true rfl) rfl ?_
  intro p e s m args below meth c
  unfold fX5_add
  refine g_iload_n 1 rfl rfl 1 rfl dX5_add_0 ?_
  refine g_join 33 (fun a1 => []) (fun a1 => []) (fun a1 => a1) ?_ ?_
  · intro a1
    exact g_vret rfl dX5_add_33
  · intro k2 hk2
    refine g_if_eq 33 (by decide) 4 rfl dX5_add_1 ?_ ?_
    · refine g_sub [] [] rfl ?_
      exact hk2 M
    · refine g_aload_n 0 rfl rfl 5 rfl dX5_add_4 ?_
      refine w_get (lx_C hX) rfl in_X5 0 (by decide) wf_X5_28 rfl 8 rfl dX5_add_5 ?_
      refine g_bipush 60 10 rfl dX5_add_8 (by decide) ?_
      refine g_icmp_ge 33 (by decide) 13 rfl dX5_add_10 ?_ ?_
      · refine g_sub [] [] rfl ?_
        exact hk2 M
      · refine g_aload_n 0 rfl rfl 14 rfl dX5_add_13 ?_
        refine w_getR (lx_C hX) rfl in_X5 4 (by decide) wf_X5_9 473 rfl 17 rfl dX5_add_14 ?_
        refine g_aload_n 0 rfl rfl 18 rfl dX5_add_17 ?_
        refine w_get (lx_C hX) rfl in_X5 0 (by decide) wf_X5_28 rfl 21 rfl dX5_add_18 ?_
        refine g_iload_n 1 rfl rfl 22 rfl dX5_add_21 ?_
        refine w_cast (lx_C1 hX) 23 rfl dX5_add_22 ?_
        intro M3
        refine g_aload_n 0 rfl rfl 24 rfl dX5_add_23 ?_
        refine g_dup 25 rfl dX5_add_24 rfl ?_
        refine w_get (lx_C hX) rfl in_X5 0 (by decide) wf_X5_28 rfl 28 rfl dX5_add_25 ?_
        refine g_iconst 1 29 rfl dX5_add_28 (by decide) ?_
        refine g_iadd 30 rfl dX5_add_29 ?_
        refine w_put (lx_C hX) rfl in_X5 0 (by decide) wf_X5_28 tyX5 tyX5_ok nmX5 rfl rfl rfl rfl 33 rfl dX5_add_30 ?_
        intro M4
        refine g_sub [] [] rfl ?_
        exact hk2 M4
def fX5_numberAt (M : Mem) (p0 : Int32) (p1 : Int32) : Option Int32 := grd (inb ((p0 * 5) + p1) 50) (some (M 476 ((p0 * 5) + p1).toNatClampNeg))
set_option maxRecDepth 100000 in
set_option maxHeartbeats 4000000 in
theorem c_X5_numberAt {Ω : Wd} (l : Launch) (hO : OkW Ω) (hX : LX Ω)  (M : Mem) (p0 : Int32) (p1 : Int32) : ∀ r, fX5_numberAt M p0 p1 = some r → Ct l yX5_numberAt (.code yX5_numberAt cX5_numberAt 3 (some .int)) 0 0 Ω [.ref (wA Ω 472), .int p0, .int p1] M ((cpI M) r) := by
  refine ofG [(0, .ref (wA Ω 472)), (1, .int p0), (2, .int p1)] hO (by decide) rfl (Nat.le_of_ble_eq_true rfl) rfl ?_
  intro p e s m args below meth c
  unfold fX5_numberAt
  refine g_aload_n 0 rfl rfl 1 rfl dX5_numberAt_0 ?_
  refine w_getR (lx_C hX) rfl in_X5 7 (by decide) wf_X5_25 476 rfl 4 rfl dX5_numberAt_1 ?_
  refine g_iload_n 1 rfl rfl 5 rfl dX5_numberAt_4 ?_
  refine g_iconst 5 6 rfl dX5_numberAt_5 (by decide) ?_
  refine g_imul 7 rfl dX5_numberAt_6 ?_
  refine g_iload_n 2 rfl rfl 8 rfl dX5_numberAt_7 ?_
  refine g_iadd 9 rfl dX5_numberAt_8 ?_
  refine w_iald (lx_C4 hX) 10 rfl dX5_numberAt_9 ?_
  exact p_iret rfl dX5_numberAt_10
def fX4_addNumber_L1 (p0 : Int32) (k2 : (Int32 × Mem) → Option (Unit × Mem)) (a1 : Int32 × Mem) : Option (Unit × Mem) := if a1.1 ≤ 0 then (some ((), a1.2)) else (jn (fun (a3 : Mem) => grd (nz 10) (bnd (a1.1 / 10) (fun x5 => k2 (x5, a3)))) (fun k4 => jn (fun (a6 : Unit) => grd (nz a1.1) (grd (nz 10) (cl (fX4_addSign a1.2 (((48 + ((p0 / a1.1) - (p0 / a1.1) / 10 * 10)).toUInt32 % 65536).toInt32)) (fun u8 M9 => k4 M9)))) (fun k7 => if a1.1 ≤ p0 then (k7 ()) else (if a1.1 = 1 then (k7 ()) else (k4 a1.2)))))
def fX4_addNumber (M : Mem) (p0 : Int32) : Option (Unit × Mem) := lp (fX4_addNumber_L1 p0) FU (1000, M)
set_option maxRecDepth 100000 in
set_option maxHeartbeats 4000000 in
theorem c_X4_addNumber {Ω : Wd} (l : Launch) (hO : OkW Ω) (hX : LX Ω)  (M : Mem) (p0 : Int32) : ∀ r, fX4_addNumber M p0 = some r → Ct l yX4_addNumber (.code yX4_addNumber cX4_addNumber 3 none) 1 21 Ω [.ref (wA Ω 477), .int p0] M (cvV r) := by
  refine ofG [(0, .ref (wA Ω 477)), (1, .int p0)] hO (by decide) rfl (Nat.le_of_ble_eq_true rfl) rfl ?_
  intro p e s m args below meth c
  unfold fX4_addNumber
  refine g_sipush 1000 3 rfl dX4_addNumber_0 (by decide) ?_
  refine g_istore_nA [(2, .int 1000), (0, .ref (wA Ω 477)), (1, .int p0)] rfl 4 rfl dX4_addNumber_3 (by decide) rfl ?_
  refine g_sub [(0, .ref (wA Ω 477)), (1, .int p0), (2, .int 1000)] [1, 2, 0] rfl ?_
  refine g_loop 4 (fun a1 => [(0, .ref (wA Ω 477)), (1, .int p0), (2, .int a1.1)]) (fun _ => []) (fun a1 => a1.2) ?_ FU (1000, M)
  intro k2 hk2 a1
  unfold fX4_addNumber_L1
  refine g_iload_n 2 rfl rfl 5 rfl dX4_addNumber_4 ?_
  refine g_if_le 40 (by decide) 8 rfl dX4_addNumber_5 ?_ ?_
  · exact g_vret rfl dX4_addNumber_40
  · refine g_iload_n 1 rfl rfl 9 rfl dX4_addNumber_8 ?_
    refine g_iload_n 2 rfl rfl 10 rfl dX4_addNumber_9 ?_
    refine g_join 32 (fun a3 => [(0, .ref (wA Ω 477)), (1, .int p0), (2, .int a1.1)]) (fun a3 => []) (fun a3 => a3) ?_ ?_
    · intro a3
      refine g_iload_n 2 rfl rfl 33 rfl dX4_addNumber_32 ?_
      refine g_bipush 10 35 rfl dX4_addNumber_33 (by decide) ?_
      refine g_idiv 36 rfl dX4_addNumber_35 ?_
      refine g_istore_n (fun x5 => [(2, .int x5), (0, .ref (wA Ω 477)), (1, .int p0)]) rfl 37 rfl dX4_addNumber_36 (by decide) (fun _ => rfl) ?_
      intro x5
      refine g_goto 4 (by decide) dX4_addNumber_37 ?_
      refine g_sub [(0, .ref (wA Ω 477)), (1, .int p0), (2, .int x5)] [1, 2, 0] rfl ?_
      exact hk2 (x5, a3)
    · intro k4 hk4
      refine g_join 18 (fun a6 => [(0, .ref (wA Ω 477)), (1, .int p0), (2, .int a1.1)]) (fun a6 => []) (fun a6 => a1.2) ?_ ?_
      · intro a6
        refine g_aload_n 0 rfl rfl 19 rfl dX4_addNumber_18 ?_
        refine g_bipush 48 21 rfl dX4_addNumber_19 (by decide) ?_
        refine g_iload_n 1 rfl rfl 22 rfl dX4_addNumber_21 ?_
        refine g_iload_n 2 rfl rfl 23 rfl dX4_addNumber_22 ?_
        refine g_idiv 24 rfl dX4_addNumber_23 ?_
        refine g_bipush 10 26 rfl dX4_addNumber_24 (by decide) ?_
        refine g_irem 27 rfl dX4_addNumber_26 ?_
        refine g_iadd 28 rfl dX4_addNumber_27 ?_
        refine g_i2c 29 rfl dX4_addNumber_28 ?_
        refine g_cVV 477 [.int (((48 + ((p0 / a1.1) - (p0 / a1.1) / 10 * 10)).toUInt32 % 65536).toInt32)] [] (c_X4_addSign l hO hX a1.2 (((48 + ((p0 / a1.1) - (p0 / a1.1) / 10 * 10)).toUInt32 % 65536).toInt32)) dX4_addNumber_29 uv_X4_69 rfl yk_X4_addSign ⟨by decide, by decide⟩ (lx_R hX).1 (lx_R hX).2 rfl (Nat.le_of_ble_eq_true rfl) rfl 32 rfl ?_
        intro u8 M9
        exact hk4 M9
      · intro k7 hk7
        refine g_icmp_ge 18 (by decide) 13 rfl dX4_addNumber_10 ?_ ?_
        · exact hk7 ()
        · refine g_iload_n 2 rfl rfl 14 rfl dX4_addNumber_13 ?_
          refine g_iconst 1 15 rfl dX4_addNumber_14 (by decide) ?_
          refine g_icmp_ne 32 (by decide) 18 rfl dX4_addNumber_15 ?_ ?_
          · exact hk7 ()
          · exact hk4 a1.2
def fX5_isNextWithin (M : Mem) (p0 : Int32) (p1 : Int32) : Option Int32 := jn (fun (a1 : Int32) => grd (isb a1) (some a1)) (fun k2 => jn (fun (a3 : Unit) => k2 0) (fun k4 => if M 472 0 ≤ M 472 2 then (k4 ()) else (if 60 ≤ M 472 2 then (k4 ()) else (grd (inb (M 472 2) 60) (clp (fX9_isWithin M (M 473 (M 472 2).toNatClampNeg) p0 p1) (fun x5 => if x5 = 0 then (k4 ()) else (k2 1)))))))
set_option maxRecDepth 100000 in
set_option maxHeartbeats 4000000 in
theorem c_X5_isNextWithin {Ω : Wd} (l : Launch) (hO : OkW Ω) (hX : LX Ω)  (M : Mem) (p0 : Int32) (p1 : Int32) : ∀ r, fX5_isNextWithin M p0 p1 = some r → Ct l yX5_isNextWithin (.code yX5_isNextWithin cX5_isNextWithin 3 (some .boolean)) 1 22 Ω [.ref (wA Ω 472), .int p0, .int p1] M ((cpI M) r) := by
  refine ofG [(0, .ref (wA Ω 472)), (1, .int p0), (2, .int p1)] hO (by decide) rfl (Nat.le_of_ble_eq_true rfl) rfl ?_
  intro p e s m args below meth c
  unfold fX5_isNextWithin
  refine g_aload_n 0 rfl rfl 1 rfl dX5_isNextWithin_0 ?_
  refine w_get (lx_C hX) rfl in_X5 2 (by decide) wf_X5_32 rfl 4 rfl dX5_isNextWithin_1 ?_
  refine g_aload_n 0 rfl rfl 5 rfl dX5_isNextWithin_4 ?_
  refine w_get (lx_C hX) rfl in_X5 0 (by decide) wf_X5_28 rfl 8 rfl dX5_isNextWithin_5 ?_
  refine g_join 42 (fun a1 => []) (fun a1 => [.int a1]) (fun a1 => M) ?_ ?_
  · intro a1
    exact p_bret rfl dX5_isNextWithin_42
  · intro k2 hk2
    refine g_join 41 (fun a3 => []) (fun a3 => []) (fun a3 => M) ?_ ?_
    · intro a3
      refine g_iconst 0 42 rfl dX5_isNextWithin_41 (by decide) ?_
      exact hk2 0
    · intro k4 hk4
      refine g_icmp_ge 41 (by decide) 11 rfl dX5_isNextWithin_8 ?_ ?_
      · refine g_sub [] [] rfl ?_
        exact hk4 ()
      · refine g_aload_n 0 rfl rfl 12 rfl dX5_isNextWithin_11 ?_
        refine w_get (lx_C hX) rfl in_X5 2 (by decide) wf_X5_32 rfl 15 rfl dX5_isNextWithin_12 ?_
        refine g_bipush 60 17 rfl dX5_isNextWithin_15 (by decide) ?_
        refine g_icmp_ge 41 (by decide) 20 rfl dX5_isNextWithin_17 ?_ ?_
        · refine g_sub [] [] rfl ?_
          exact hk4 ()
        · refine g_aload_n 0 rfl rfl 21 rfl dX5_isNextWithin_20 ?_
          refine w_getR (lx_C hX) rfl in_X5 4 (by decide) wf_X5_9 473 rfl 24 rfl dX5_isNextWithin_21 ?_
          refine g_aload_n 0 rfl rfl 25 rfl dX5_isNextWithin_24 ?_
          refine w_get (lx_C hX) rfl in_X5 2 (by decide) wf_X5_32 rfl 28 rfl dX5_isNextWithin_25 ?_
          refine w_cald (lx_C1 hX) 29 rfl dX5_isNextWithin_28 ?_
          refine g_iload_n 1 rfl rfl 30 rfl dX5_isNextWithin_29 ?_
          refine g_iload_n 2 rfl rfl 31 rfl dX5_isNextWithin_30 ?_
          refine p_cSNI [.int (M 473 (M 472 2).toNatClampNeg), .int p0, .int p1] [] (c_X9_isWithin l hO M (M 473 (M 472 2).toNatClampNeg) p0 p1) dX5_isNextWithin_31 wk_X5_82 ws_X9_isWithin wn_X9 wc_X9_isWithin yk_X9_isWithin ⟨by decide, by decide⟩ (Nat.le_of_ble_eq_true rfl) rfl 34 rfl ?_
          intro x5
          refine g_if_eq 41 (by decide) 37 rfl dX5_isNextWithin_34 ?_ ?_
          · refine g_sub [] [] rfl ?_
            exact hk4 ()
          · refine g_iconst 1 38 rfl dX5_isNextWithin_37 (by decide) ?_
            refine g_goto 42 (by decide) dX5_isNextWithin_38 ?_
            refine g_sub [] [] rfl ?_
            exact hk2 1
def fX5_readSign (M : Mem) (p0 : Int32) : Option (Unit × Mem) := jn (fun (a1 : Mem) => some ((), a1)) (fun k2 => if M 472 3 = (-1) then (clp (fX5_isNextWithin M p0 p0) (fun x3 => if x3 = 0 then (bnd (mset M 472 3 (M 472 2)) (fun M4 => k2 M4)) else (bnd (mset M 472 2 ((M 472 2) + 1)) (fun M5 => k2 M5)))) else (k2 M))
set_option maxRecDepth 100000 in
set_option maxHeartbeats 4000000 in
theorem c_X5_readSign {Ω : Wd} (l : Launch) (hO : OkW Ω) (hX : LX Ω)  (M : Mem) (p0 : Int32) : ∀ r, fX5_readSign M p0 = some r → Ct l yX5_readSign (.code yX5_readSign cX5_readSign 2 none) 2 44 Ω [.ref (wA Ω 472), .int p0] M (cvV r) := by
  refine ofG [(0, .ref (wA Ω 472)), (1, .int p0)] hO (by decide) rfl (Nat.le_of_ble_eq_true rfl) rfl ?_
  intro p e s m args below meth c
  unfold fX5_readSign
  refine g_aload_n 0 rfl rfl 1 rfl dX5_readSign_0 ?_
  refine w_get (lx_C hX) rfl in_X5 3 (by decide) wf_X5_38 rfl 4 rfl dX5_readSign_1 ?_
  refine g_iconst (-1) 5 rfl dX5_readSign_4 (by decide) ?_
  refine g_join 38 (fun a1 => []) (fun a1 => []) (fun a1 => a1) ?_ ?_
  · intro a1
    exact g_vret rfl dX5_readSign_38
  · intro k2 hk2
    refine g_icmp_ne 38 (by decide) 8 rfl dX5_readSign_5 ?_ ?_
    · refine g_aload_n 0 rfl rfl 9 rfl dX5_readSign_8 ?_
      refine g_iload_n 1 rfl rfl 10 rfl dX5_readSign_9 ?_
      refine g_iload_n 1 rfl rfl 11 rfl dX5_readSign_10 ?_
      refine p_cVI 472 [.int p0, .int p0] [] (c_X5_isNextWithin l hO hX M p0 p0) dX5_readSign_11 uv_X5_59 rfl yk_X5_isNextWithin ⟨by decide, by decide⟩ (lx_C hX).1 (lx_C hX).2 rfl (Nat.le_of_ble_eq_true rfl) rfl 14 rfl ?_
      intro x3
      refine g_if_eq 30 (by decide) 17 rfl dX5_readSign_14 ?_ ?_
      · refine g_aload_n 0 rfl rfl 31 rfl dX5_readSign_30 ?_
        refine g_aload_n 0 rfl rfl 32 rfl dX5_readSign_31 ?_
        refine w_get (lx_C hX) rfl in_X5 2 (by decide) wf_X5_32 rfl 35 rfl dX5_readSign_32 ?_
        refine w_put (lx_C hX) rfl in_X5 3 (by decide) wf_X5_38 tyX5 tyX5_ok nmX5 rfl rfl rfl rfl 38 rfl dX5_readSign_35 ?_
        intro M4
        refine g_sub [] [] rfl ?_
        exact hk2 M4
      · refine g_aload_n 0 rfl rfl 18 rfl dX5_readSign_17 ?_
        refine g_dup 19 rfl dX5_readSign_18 rfl ?_
        refine w_get (lx_C hX) rfl in_X5 2 (by decide) wf_X5_32 rfl 22 rfl dX5_readSign_19 ?_
        refine g_iconst 1 23 rfl dX5_readSign_22 (by decide) ?_
        refine g_iadd 24 rfl dX5_readSign_23 ?_
        refine w_put (lx_C hX) rfl in_X5 2 (by decide) wf_X5_32 tyX5 tyX5_ok nmX5 rfl rfl rfl rfl 27 rfl dX5_readSign_24 ?_
        intro M5
        refine g_goto 38 (by decide) dX5_readSign_27 ?_
        refine g_sub [] [] rfl ?_
        exact hk2 M5
    · refine g_sub [] [] rfl ?_
      exact hk2 M
def fX5_readNumber_L1 (k2 : (Int32 × Int32 × Mem) → Option (Int32 × Mem)) (k7 : (Int32 × Int32 × Mem) → Option (Int32 × Mem)) (a6 : Int32 × Int32 × Mem) : Option (Int32 × Mem) := if a6.2.2 472 3 = (-1) then (if 4 ≤ a6.2.1 then (k2 (a6.1, a6.2.1, a6.2.2)) else (jn (fun (a8 : Unit) => clp (fX5_isNextWithin a6.2.2 48 57) (fun x10 => if x10 = 0 then (k2 (a6.1, a6.2.1, a6.2.2)) else (grd (inb (a6.2.2 472 2) 60) (bnd (((10 * a6.1) + (a6.2.2 473 (a6.2.2 472 2).toNatClampNeg)) - 48) (fun x11 => bnd (a6.2.1 + 1) (fun x12 => bnd (mset a6.2.2 472 2 ((a6.2.2 472 2) + 1)) (fun M13 => k7 (x11, x12, M13)))))))) (fun k9 => if a6.2.1 ≤ 0 then (k9 ()) else (if a6.1 = 0 then (k2 (a6.1, a6.2.1, a6.2.2)) else (k9 ()))))) else (k2 (a6.1, a6.2.1, a6.2.2))
def fX5_readNumber (M : Mem)  : Option (Int32 × Mem) := jn (fun (a1 : Int32 × Int32 × Mem) => jn (fun (a3 : Mem) => some (a1.1, a3)) (fun k4 => if a1.2.2 472 3 = (-1) then (if a1.2.1 = 0 then (bnd (mset a1.2.2 472 3 (a1.2.2 472 2)) (fun M5 => k4 M5)) else (k4 a1.2.2)) else (k4 a1.2.2))) (fun k2 => lp (fX5_readNumber_L1 k2) FU (0, 0, M))
set_option maxRecDepth 100000 in
set_option maxHeartbeats 4000000 in
theorem c_X5_readNumber {Ω : Wd} (l : Launch) (hO : OkW Ω) (hX : LX Ω)  (M : Mem)  : ∀ r, fX5_readNumber M  = some r → Ct l yX5_readNumber (.code yX5_readNumber cX5_readNumber 3 (some .int)) 2 44 Ω [.ref (wA Ω 472)] M (cvI r) := by
  refine ofG [(0, .ref (wA Ω 472))] hO (by decide) rfl (Nat.le_of_ble_eq_true rfl) rfl ?_
  intro p e s m args below meth c
  unfold fX5_readNumber
  refine g_iconst 0 1 rfl dX5_readNumber_0 (by decide) ?_
  refine g_istore_nA [(1, .int 0), (0, .ref (wA Ω 472))] rfl 2 rfl dX5_readNumber_1 (by decide) rfl ?_
  refine g_iconst 0 3 rfl dX5_readNumber_2 (by decide) ?_
  refine g_istore_nA [(2, .int 0), (1, .int 0), (0, .ref (wA Ω 472))] rfl 4 rfl dX5_readNumber_3 (by decide) rfl ?_
  refine g_join 70 (fun a1 => [(0, .ref (wA Ω 472)), (1, .int a1.1), (2, .int a1.2.1)]) (fun a1 => []) (fun a1 => a1.2.2) ?_ ?_
  · intro a1
    refine g_aload_n 0 rfl rfl 71 rfl dX5_readNumber_70 ?_
    refine w_get (lx_C hX) rfl in_X5 3 (by decide) wf_X5_38 rfl 74 rfl dX5_readNumber_71 ?_
    refine g_iconst (-1) 75 rfl dX5_readNumber_74 (by decide) ?_
    refine g_join 90 (fun a3 => [(1, .int a1.1)]) (fun a3 => []) (fun a3 => a3) ?_ ?_
    · intro a3
      refine g_iload_n 0 rfl rfl 91 rfl dX5_readNumber_90 ?_
      exact g_iret rfl dX5_readNumber_91
    · intro k4 hk4
      refine g_icmp_ne 90 (by decide) 78 rfl dX5_readNumber_75 ?_ ?_
      · refine g_iload_n 2 rfl rfl 79 rfl dX5_readNumber_78 ?_
        refine g_if_ne 90 (by decide) 82 rfl dX5_readNumber_79 ?_ ?_
        · refine g_aload_n 0 rfl rfl 83 rfl dX5_readNumber_82 ?_
          refine g_aload_n 0 rfl rfl 84 rfl dX5_readNumber_83 ?_
          refine w_get (lx_C hX) rfl in_X5 2 (by decide) wf_X5_32 rfl 87 rfl dX5_readNumber_84 ?_
          refine w_put (lx_C hX) rfl in_X5 3 (by decide) wf_X5_38 tyX5 tyX5_ok nmX5 rfl rfl rfl rfl 90 rfl dX5_readNumber_87 ?_
          intro M5
          refine g_sub [(1, .int a1.1)] [1] rfl ?_
          exact hk4 M5
        · refine g_sub [(1, .int a1.1)] [1] rfl ?_
          exact hk4 a1.2.2
      · refine g_sub [(1, .int a1.1)] [1] rfl ?_
        exact hk4 a1.2.2
  · intro k2 hk2
    refine g_sub [(0, .ref (wA Ω 472)), (1, .int 0), (2, .int 0)] [2, 1, 0] rfl ?_
    refine g_loop 4 (fun a6 => [(0, .ref (wA Ω 472)), (1, .int a6.1), (2, .int a6.2.1)]) (fun _ => []) (fun a6 => a6.2.2) ?_ FU (0, 0, M)
    intro k7 hk7 a6
    unfold fX5_readNumber_L1
    refine g_aload_n 0 rfl rfl 5 rfl dX5_readNumber_4 ?_
    refine w_get (lx_C hX) rfl in_X5 3 (by decide) wf_X5_38 rfl 8 rfl dX5_readNumber_5 ?_
    refine g_iconst (-1) 9 rfl dX5_readNumber_8 (by decide) ?_
    refine g_icmp_ne 70 (by decide) 12 rfl dX5_readNumber_9 ?_ ?_
    · refine g_iload_n 2 rfl rfl 13 rfl dX5_readNumber_12 ?_
      refine g_iconst 4 14 rfl dX5_readNumber_13 (by decide) ?_
      refine g_icmp_ge 70 (by decide) 17 rfl dX5_readNumber_14 ?_ ?_
      · exact hk2 (a6.1, a6.2.1, a6.2.2)
      · refine g_iload_n 2 rfl rfl 18 rfl dX5_readNumber_17 ?_
        refine g_join 25 (fun a8 => [(0, .ref (wA Ω 472)), (1, .int a6.1), (2, .int a6.2.1)]) (fun a8 => []) (fun a8 => a6.2.2) ?_ ?_
        · intro a8
          refine g_aload_n 0 rfl rfl 26 rfl dX5_readNumber_25 ?_
          refine g_bipush 48 28 rfl dX5_readNumber_26 (by decide) ?_
          refine g_bipush 57 30 rfl dX5_readNumber_28 (by decide) ?_
          refine p_cVI 472 [.int 48, .int 57] [] (c_X5_isNextWithin l hO hX a6.2.2 48 57) dX5_readNumber_30 uv_X5_59 rfl yk_X5_isNextWithin ⟨by decide, by decide⟩ (lx_C hX).1 (lx_C hX).2 rfl (Nat.le_of_ble_eq_true rfl) rfl 33 rfl ?_
          intro x10
          refine g_if_eq 70 (by decide) 36 rfl dX5_readNumber_33 ?_ ?_
          · exact hk2 (a6.1, a6.2.1, a6.2.2)
          · refine g_bipush 10 38 rfl dX5_readNumber_36 (by decide) ?_
            refine g_iload_n 1 rfl rfl 39 rfl dX5_readNumber_38 ?_
            refine g_imul 40 rfl dX5_readNumber_39 ?_
            refine g_aload_n 0 rfl rfl 41 rfl dX5_readNumber_40 ?_
            refine w_getR (lx_C hX) rfl in_X5 4 (by decide) wf_X5_9 473 rfl 44 rfl dX5_readNumber_41 ?_
            refine g_aload_n 0 rfl rfl 45 rfl dX5_readNumber_44 ?_
            refine w_get (lx_C hX) rfl in_X5 2 (by decide) wf_X5_32 rfl 48 rfl dX5_readNumber_45 ?_
            refine w_cald (lx_C1 hX) 49 rfl dX5_readNumber_48 ?_
            refine g_iadd 50 rfl dX5_readNumber_49 ?_
            refine g_bipush 48 52 rfl dX5_readNumber_50 (by decide) ?_
            refine g_isub 53 rfl dX5_readNumber_52 ?_
            refine g_istore_n (fun x11 => [(1, .int x11), (0, .ref (wA Ω 472)), (2, .int a6.2.1)]) rfl 54 rfl dX5_readNumber_53 (by decide) (fun _ => rfl) ?_
            intro x11
            refine g_iinc 2 rfl 1 (by decide) (fun x12 => [(2, .int x12), (1, .int x11), (0, .ref (wA Ω 472))]) 57 rfl dX5_readNumber_54 (by decide) (fun _ => rfl) ?_
            intro x12
            refine g_aload_n 2 rfl rfl 58 rfl dX5_readNumber_57 ?_
            refine g_dup 59 rfl dX5_readNumber_58 rfl ?_
            refine w_get (lx_C hX) rfl in_X5 2 (by decide) wf_X5_32 rfl 62 rfl dX5_readNumber_59 ?_
            refine g_iconst 1 63 rfl dX5_readNumber_62 (by decide) ?_
            refine g_iadd 64 rfl dX5_readNumber_63 ?_
            refine w_put (lx_C hX) rfl in_X5 2 (by decide) wf_X5_32 tyX5 tyX5_ok nmX5 rfl rfl rfl rfl 67 rfl dX5_readNumber_64 ?_
            intro M13
            refine g_goto 4 (by decide) dX5_readNumber_67 ?_
            refine g_sub [(0, .ref (wA Ω 472)), (1, .int x11), (2, .int x12)] [2, 1, 0] rfl ?_
            exact hk7 (x11, x12, M13)
        · intro k9 hk9
          refine g_if_le 25 (by decide) 21 rfl dX5_readNumber_18 ?_ ?_
          · exact hk9 ()
          · refine g_iload_n 1 rfl rfl 22 rfl dX5_readNumber_21 ?_
            refine g_if_eq 70 (by decide) 25 rfl dX5_readNumber_22 ?_ ?_
            · exact hk2 (a6.1, a6.2.1, a6.2.2)
            · exact hk9 ()
    · exact hk2 (a6.1, a6.2.1, a6.2.2)
def fX4_addText_L1 (i0 : Nat) (k2 : (Int32 × Mem) → Option (Unit × Mem)) (a1 : Int32 × Mem) : Option (Unit × Mem) := clp (fJ0_length i0 ) (fun x3 => if x3 ≤ a1.1 then (some ((), a1.2)) else (clp (fJ0_charAt i0 a1.1) (fun x4 => cl (fX4_addSign a1.2 x4) (fun u5 M6 => bnd (a1.1 + 1) (fun x7 => k2 (x7, M6))))))
def fX4_addText (M : Mem) (i0 : Nat) : Option (Unit × Mem) := lp (fX4_addText_L1 i0) FU (0, M)
set_option maxRecDepth 100000 in
set_option maxHeartbeats 4000000 in
theorem c_X4_addText {Ω : Wd} (l : Launch) (hO : OkW Ω) (hX : LX Ω) {K V : Nat → Nat} (hK : StrOk Ω K V) {i0 : Nat} (hi0 : i0 < 35) (M : Mem)  : ∀ r, fX4_addText M i0 = some r → Ct l yX4_addText (.code yX4_addText cX4_addText 3 none) 4 85 Ω [.ref (wA Ω 477), .ref (K i0)] M (cvV r) := by
  refine ofG [(0, .ref (wA Ω 477)), (1, .ref (K i0))] hO (by decide) rfl (Nat.le_of_ble_eq_true rfl) rfl ?_
  intro p e s m args below meth c
  unfold fX4_addText
  refine g_iconst 0 1 rfl dX4_addText_0 (by decide) ?_
  refine g_istore_nA [(2, .int 0), (0, .ref (wA Ω 477)), (1, .ref (K i0))] rfl 2 rfl dX4_addText_1 (by decide) rfl ?_
  refine g_sub [(0, .ref (wA Ω 477)), (1, .ref (K i0)), (2, .int 0)] [1, 2, 0] rfl ?_
  refine g_loop 2 (fun a1 => [(0, .ref (wA Ω 477)), (1, .ref (K i0)), (2, .int a1.1)]) (fun _ => []) (fun a1 => a1.2) ?_ FU (0, M)
  intro k2 hk2 a1
  unfold fX4_addText_L1
  refine g_iload_n 2 rfl rfl 3 rfl dX4_addText_2 ?_
  refine g_aload_n 1 rfl rfl 4 rfl dX4_addText_3 ?_
  refine p_cK hK i0 hi0 [] [.int a1.1] (c_J0_length l hO hK i0 hi0 a1.2 ) dX4_addText_4 uv_X4_60 rfl yk_J0_length_8abf5 ⟨by decide, by decide⟩ (Nat.le_of_ble_eq_true rfl) rfl 7 rfl ?_
  intro x3
  refine g_icmp_ge 25 (by decide) 10 rfl dX4_addText_7 ?_ ?_
  · exact g_vret rfl dX4_addText_25
  · refine g_aload_n 0 rfl rfl 11 rfl dX4_addText_10 ?_
    refine g_aload_n 1 rfl rfl 12 rfl dX4_addText_11 ?_
    refine g_iload_n 2 rfl rfl 13 rfl dX4_addText_12 ?_
    refine p_cK hK i0 hi0 [.int a1.1] [.ref (wA Ω 477)] (c_J0_charAt l hO hK i0 hi0 a1.2 a1.1) dX4_addText_13 uv_X4_65 rfl yk_J0_charAt_5068e ⟨by decide, by decide⟩ (Nat.le_of_ble_eq_true rfl) rfl 16 rfl ?_
    intro x4
    refine g_cVV 477 [.int x4] [] (c_X4_addSign l hO hX a1.2 x4) dX4_addText_16 uv_X4_69 rfl yk_X4_addSign ⟨by decide, by decide⟩ (lx_R hX).1 (lx_R hX).2 rfl (Nat.le_of_ble_eq_true rfl) rfl 19 rfl ?_
    intro u5 M6
    refine g_iinc 2 rfl 1 (by decide) (fun x7 => [(2, .int x7), (0, .ref (wA Ω 477)), (1, .ref (K i0))]) 22 rfl dX4_addText_19 (by decide) (fun _ => rfl) ?_
    intro x7
    refine g_goto 2 (by decide) dX4_addText_22 ?_
    refine g_sub [(0, .ref (wA Ω 477)), (1, .ref (K i0)), (2, .int x7)] [1, 2, 0] rfl ?_
    exact hk2 (x7, M6)
def fX5_isWord_L1 (i0 : Nat) (p1 : Int32) (M : Mem) (k3 : Int32 → Option Int32) (a2 : Int32) : Option Int32 := clp (fJ0_length i0 ) (fun x4 => if x4 ≤ a2 then (some 1) else (clp (fJ0_charAt i0 a2) (fun x5 => grd (inb (p1 + a2) 60) (if x5 = M 473 (p1 + a2).toNatClampNeg then (bnd (a2 + 1) (fun x6 => k3 x6)) else (some 0)))))
def fX5_isWord (M : Mem) (i0 : Nat) (p1 : Int32) : Option Int32 := clp (fJ0_length i0 ) (fun x1 => if x1 = (M 472 2) - p1 then (lp (fX5_isWord_L1 i0 p1 M) FU 0) else (some 0))
set_option maxRecDepth 100000 in
set_option maxHeartbeats 4000000 in
theorem c_X5_isWord {Ω : Wd} (l : Launch) (hO : OkW Ω) (hX : LX Ω) {K V : Nat → Nat} (hK : StrOk Ω K V) {i0 : Nat} (hi0 : i0 < 35) (M : Mem) (p1 : Int32) : ∀ r, fX5_isWord M i0 p1 = some r → Ct l yX5_isWord (.code yX5_isWord cX5_isWord 4 (some .boolean)) 4 85 Ω [.ref (wA Ω 472), .ref (K i0), .int p1] M ((cpI M) r) := by
  refine ofG [(0, .ref (wA Ω 472)), (1, .ref (K i0)), (2, .int p1)] hO (by decide) rfl (Nat.le_of_ble_eq_true rfl) rfl ?_
  intro p e s m args below meth c
  unfold fX5_isWord
  refine g_aload_n 1 rfl rfl 1 rfl dX5_isWord_0 ?_
  refine p_cK hK i0 hi0 [] [] (c_J0_length l hO hK i0 hi0 M ) dX5_isWord_1 uv_X5_74 rfl yk_J0_length_8abf5 ⟨by decide, by decide⟩ (Nat.le_of_ble_eq_true rfl) rfl 4 rfl ?_
  intro x1
  refine g_aload_n 0 rfl rfl 5 rfl dX5_isWord_4 ?_
  refine w_get (lx_C hX) rfl in_X5 2 (by decide) wf_X5_32 rfl 8 rfl dX5_isWord_5 ?_
  refine g_iload_n 2 rfl rfl 9 rfl dX5_isWord_8 ?_
  refine g_isub 10 rfl dX5_isWord_9 ?_
  refine g_icmp_eq 15 (by decide) 13 rfl dX5_isWord_10 ?_ ?_
  · refine g_iconst 0 16 rfl dX5_isWord_15 (by decide) ?_
    refine g_istore_nA [(3, .int 0), (0, .ref (wA Ω 472)), (1, .ref (K i0)), (2, .int p1)] rfl 17 rfl dX5_isWord_16 (by decide) rfl ?_
    refine g_sub [(0, .ref (wA Ω 472)), (1, .ref (K i0)), (2, .int p1), (3, .int 0)] [1, 2, 3, 0] rfl ?_
    refine g_loop 17 (fun a2 => [(0, .ref (wA Ω 472)), (1, .ref (K i0)), (2, .int p1), (3, .int a2)]) (fun _ => []) (fun a2 => M) ?_ FU 0
    intro k3 hk3 a2
    unfold fX5_isWord_L1
    refine g_iload_n 3 rfl rfl 18 rfl dX5_isWord_17 ?_
    refine g_aload_n 1 rfl rfl 19 rfl dX5_isWord_18 ?_
    refine p_cK hK i0 hi0 [] [.int a2] (c_J0_length l hO hK i0 hi0 M ) dX5_isWord_19 uv_X5_74 rfl yk_J0_length_8abf5 ⟨by decide, by decide⟩ (Nat.le_of_ble_eq_true rfl) rfl 22 rfl ?_
    intro x4
    refine g_icmp_ge 49 (by decide) 25 rfl dX5_isWord_22 ?_ ?_
    · refine g_iconst 1 50 rfl dX5_isWord_49 (by decide) ?_
      exact p_zret rfl rfl dX5_isWord_50
    · refine g_aload_n 1 rfl rfl 26 rfl dX5_isWord_25 ?_
      refine g_iload_n 3 rfl rfl 27 rfl dX5_isWord_26 ?_
      refine p_cK hK i0 hi0 [.int a2] [] (c_J0_charAt l hO hK i0 hi0 M a2) dX5_isWord_27 uv_X5_78 rfl yk_J0_charAt_5068e ⟨by decide, by decide⟩ (Nat.le_of_ble_eq_true rfl) rfl 30 rfl ?_
      intro x5
      refine g_aload_n 0 rfl rfl 31 rfl dX5_isWord_30 ?_
      refine w_getR (lx_C hX) rfl in_X5 4 (by decide) wf_X5_9 473 rfl 34 rfl dX5_isWord_31 ?_
      refine g_iload_n 2 rfl rfl 35 rfl dX5_isWord_34 ?_
      refine g_iload_n 3 rfl rfl 36 rfl dX5_isWord_35 ?_
      refine g_iadd 37 rfl dX5_isWord_36 ?_
      refine w_cald (lx_C1 hX) 38 rfl dX5_isWord_37 ?_
      refine g_icmp_eq 43 (by decide) 41 rfl dX5_isWord_38 ?_ ?_
      · refine g_iinc 3 rfl 1 (by decide) (fun x6 => [(3, .int x6), (0, .ref (wA Ω 472)), (1, .ref (K i0)), (2, .int p1)]) 46 rfl dX5_isWord_43 (by decide) (fun _ => rfl) ?_
        intro x6
        refine g_goto 17 (by decide) dX5_isWord_46 ?_
        refine g_sub [(0, .ref (wA Ω 472)), (1, .ref (K i0)), (2, .int p1), (3, .int x6)] [1, 2, 3, 0] rfl ?_
        exact hk3 x6
      · refine g_iconst 0 42 rfl dX5_isWord_41 (by decide) ?_
        exact p_zret rfl rfl dX5_isWord_42
  · refine g_iconst 0 14 rfl dX5_isWord_13 (by decide) ?_
    exact p_zret rfl rfl dX5_isWord_14
def fX4_addGroups_L1 (p1 : Int32) (k8 : (Int32 × Mem) → Option (Unit × Mem)) (a7 : Int32 × Mem) : Option (Unit × Mem) := if 6 ≤ a7.1 then (some ((), a7.2)) else (jn (fun (a9 : Mem) => bnd (a7.1 + 1) (fun x11 => k8 (x11, a9))) (fun k10 => if ((p1.toUInt32 >>> (a7.1.toUInt32 &&& Int32.toUInt32 31)).toInt32) &&& 1 = 1 then (cl (fX4_addText a7.2 17) (fun u12 M13 => cl (fX4_addNumber M13 a7.1) (fun u14 M15 => k10 M15))) else (k10 a7.2)))
def fX4_addGroups (M : Mem) (i0 : Nat) (p1 : Int32) : Option (Unit × Mem) := jn (fun (a1 : Nat) => grd (decide (a1 < 35)) (cl (fX4_addText M a1) (fun u3 M4 => cl (fX4_addText M4 i0) (fun u5 M6 => lp (fX4_addGroups_L1 p1) FU (0, M6))))) (fun k2 => if p1 = 0 then (k2 15) else (k2 16))
set_option maxRecDepth 100000 in
set_option maxHeartbeats 4000000 in
theorem c_X4_addGroups {Ω : Wd} (l : Launch) (hO : OkW Ω) (hX : LX Ω) {K V : Nat → Nat} (hK : StrOk Ω K V) {i0 : Nat} (hi0 : i0 < 35) (M : Mem) (p1 : Int32) : ∀ r, fX4_addGroups M i0 p1 = some r → Ct l yX4_addGroups (.code yX4_addGroups cX4_addGroups 4 none) 5 107 Ω [.ref (wA Ω 477), .ref (K i0), .int p1] M (cvV r) := by
  refine ofG [(0, .ref (wA Ω 477)), (1, .ref (K i0)), (2, .int p1)] hO (by decide) rfl (Nat.le_of_ble_eq_true rfl) rfl ?_
  intro p e s m args below meth c
  unfold fX4_addGroups
  refine g_aload_n 0 rfl rfl 1 rfl dX4_addGroups_0 ?_
  refine g_iload_n 2 rfl rfl 2 rfl dX4_addGroups_1 ?_
  refine g_join 12 (fun a1 => [(0, .ref (wA Ω 477)), (1, .ref (K i0)), (2, .int p1)]) (fun a1 => [.ref (K a1), .ref (wA Ω 477)]) (fun a1 => M) ?_ ?_
  · intro a1
    refine g_grd (fun hsa10 => ?_)
    have hsa1 := of_decide_eq_true hsa10
    refine g_cVV 477 [.ref (K a1)] [] (c_X4_addText l hO hX hK hsa1 M) dX4_addGroups_12 uv_X4_26 rfl yk_X4_addText ⟨by decide, by decide⟩ (lx_R hX).1 (lx_R hX).2 rfl (Nat.le_of_ble_eq_true rfl) rfl 15 rfl ?_
    intro u3 M4
    refine g_aload_n 0 rfl rfl 16 rfl dX4_addGroups_15 ?_
    refine g_aload_n 1 rfl rfl 17 rfl dX4_addGroups_16 ?_
    refine g_cVV 477 [.ref (K i0)] [] (c_X4_addText l hO hX hK hi0 M4) dX4_addGroups_17 uv_X4_26 rfl yk_X4_addText ⟨by decide, by decide⟩ (lx_R hX).1 (lx_R hX).2 rfl (Nat.le_of_ble_eq_true rfl) rfl 20 rfl ?_
    intro u5 M6
    refine g_iconst 0 21 rfl dX4_addGroups_20 (by decide) ?_
    refine g_istore_nA [(3, .int 0), (0, .ref (wA Ω 477)), (1, .ref (K i0)), (2, .int p1)] rfl 22 rfl dX4_addGroups_21 (by decide) rfl ?_
    refine g_sub [(0, .ref (wA Ω 477)), (2, .int p1), (3, .int 0)] [1, 3, 0] rfl ?_
    refine g_loop 22 (fun a7 => [(0, .ref (wA Ω 477)), (2, .int p1), (3, .int a7.1)]) (fun _ => []) (fun a7 => a7.2) ?_ FU (0, M6)
    intro k8 hk8 a7
    unfold fX4_addGroups_L1
    refine g_iload_n 2 rfl rfl 23 rfl dX4_addGroups_22 ?_
    refine g_bipush 6 25 rfl dX4_addGroups_23 (by decide) ?_
    refine g_icmp_ge 54 (by decide) 28 rfl dX4_addGroups_25 ?_ ?_
    · exact g_vret rfl dX4_addGroups_54
    · refine g_iload_n 1 rfl rfl 29 rfl dX4_addGroups_28 ?_
      refine g_iload_n 2 rfl rfl 30 rfl dX4_addGroups_29 ?_
      refine g_iushr 31 rfl dX4_addGroups_30 ?_
      refine g_iconst 1 32 rfl dX4_addGroups_31 (by decide) ?_
      refine g_iand 33 rfl dX4_addGroups_32 ?_
      refine g_iconst 1 34 rfl dX4_addGroups_33 (by decide) ?_
      refine g_join 48 (fun a9 => [(0, .ref (wA Ω 477)), (2, .int p1), (3, .int a7.1)]) (fun a9 => []) (fun a9 => a9) ?_ ?_
      · intro a9
        refine g_iinc 2 rfl 1 (by decide) (fun x11 => [(3, .int x11), (0, .ref (wA Ω 477)), (2, .int p1)]) 51 rfl dX4_addGroups_48 (by decide) (fun _ => rfl) ?_
        intro x11
        refine g_goto 22 (by decide) dX4_addGroups_51 ?_
        refine g_sub [(0, .ref (wA Ω 477)), (2, .int p1), (3, .int x11)] [1, 2, 0] rfl ?_
        exact hk8 (x11, a9)
      · intro k10 hk10
        refine g_icmp_ne 48 (by decide) 37 rfl dX4_addGroups_34 ?_ ?_
        · refine g_aload_n 0 rfl rfl 38 rfl dX4_addGroups_37 ?_
          refine s_ldc hK 17 (by decide) rfl 40 rfl dX4_addGroups_38 ?_
          refine g_cVV 477 [.ref (K 17)] [] (c_X4_addText l hO hX hK (by decide) a7.2) dX4_addGroups_40 uv_X4_26 rfl yk_X4_addText ⟨by decide, by decide⟩ (lx_R hX).1 (lx_R hX).2 rfl (Nat.le_of_ble_eq_true rfl) rfl 43 rfl ?_
          intro u12 M13
          refine g_aload_n 0 rfl rfl 44 rfl dX4_addGroups_43 ?_
          refine g_iload_n 2 rfl rfl 45 rfl dX4_addGroups_44 ?_
          refine g_cVV 477 [.int a7.1] [] (c_X4_addNumber l hO hX M13 a7.1) dX4_addGroups_45 uv_X4_30 rfl yk_X4_addNumber ⟨by decide, by decide⟩ (lx_R hX).1 (lx_R hX).2 rfl (Nat.le_of_ble_eq_true rfl) rfl 48 rfl ?_
          intro u14 M15
          exact hk10 M15
        · exact hk10 a7.2
  · intro k2 hk2
    refine g_if_ne 10 (by decide) 5 rfl dX4_addGroups_2 ?_ ?_
    · refine s_ldc hK 15 (by decide) rfl 7 rfl dX4_addGroups_5 ?_
      refine g_goto 12 (by decide) dX4_addGroups_7 ?_
      exact hk2 15
    · refine s_ldc hK 16 (by decide) rfl 12 rfl dX4_addGroups_10 ?_
      exact hk2 16
def fX5_readWord_L1 (x1 : Int32) (a2 : Mem) (k5 : Unit → Option (Option Nat × Mem)) (k8 : Int32 → Option (Option Nat × Mem)) (k11 : Int32 → Option (Option Nat × Mem)) (a10 : Int32) : Option (Option Nat × Mem) := if 6 ≤ a10 then (k5 ()) else (grd (inb a10 6) (clp (fX5_isWord a2 (29 + a10.toNatClampNeg) x1) (fun x13 => if x13 = 0 then (bnd (a10 + 1) (fun x14 => k11 x14)) else (k8 a10))))
def fX5_readWord_L2 (k3 : Mem → Option (Option Nat × Mem)) (k16 : (Int32 × Mem) → Option (Option Nat × Mem)) (a15 : Int32 × Mem) : Option (Option Nat × Mem) := if 60 ≤ a15.1 then (k3 a15.2) else (clp (fX5_isNextWithin a15.2 97 122) (fun x17 => if x17 = 0 then (k3 a15.2) else (bnd (mset a15.2 472 2 ((a15.2 472 2) + 1)) (fun M18 => bnd (a15.1 + 1) (fun x19 => k16 (x19, M18))))))
def fX5_readWord (M : Mem)  : Option (Option Nat × Mem) := bnd (M 472 2) (fun x1 => jn (fun (a2 : Mem) => jn (fun (a4 : Unit) => bnd (mset a2 472 3 x1) (fun M6 => some (none, M6))) (fun k5 => jn (fun (a7 : Int32) => grd (inb a7 6) (some ((some a7.toNatClampNeg), a2))) (fun k8 => lp (fX5_readWord_L1 x1 a2 k5 k8) FU 0))) (fun k3 => lp (fX5_readWord_L2 k3) FU (0, M)))
set_option maxRecDepth 100000 in
set_option maxHeartbeats 4000000 in
theorem c_X5_readWord {Ω : Wd} (l : Launch) (hO : OkW Ω) (hX : LX Ω) {K V : Nat → Nat} (hK : StrOk Ω K V) {E : Nat → Nat} {t0 t1 : Nat} (hE : EnOk Ω E K t0 t1) (hW : WA Ω E)  (M : Mem)  : ∀ r, fX5_readWord M  = some r → Ct l yX5_readWord (.code yX5_readWord cX5_readWord 3 (some (.object "SignalRoad$Word"))) 5 108 Ω [.ref (wA Ω 472)] M ((cvE E) r) := by
  refine ofG [(0, .ref (wA Ω 472))] hO (by decide) rfl (Nat.le_of_ble_eq_true rfl) rfl ?_
  intro p e s m args below meth c
  unfold fX5_readWord
  refine g_aload_n 0 rfl rfl 1 rfl dX5_readWord_0 ?_
  refine w_get (lx_C hX) rfl in_X5 2 (by decide) wf_X5_32 rfl 4 rfl dX5_readWord_1 ?_
  refine g_istore_n (fun x1 => [(1, .int x1), (0, .ref (wA Ω 472))]) rfl 5 rfl dX5_readWord_4 (by decide) (fun _ => rfl) ?_
  intro x1
  refine g_iconst 0 6 rfl dX5_readWord_5 (by decide) ?_
  refine g_istore_nA [(2, .int 0), (1, .int x1), (0, .ref (wA Ω 472))] rfl 7 rfl dX5_readWord_6 (by decide) rfl ?_
  refine g_join 40 (fun a2 => [(0, .ref (wA Ω 472)), (1, .int x1)]) (fun a2 => []) (fun a2 => a2) ?_ ?_
  · intro a2
    refine g_iconst 0 41 rfl dX5_readWord_40 (by decide) ?_
    refine g_istore_nA [(2, .int 0), (0, .ref (wA Ω 472)), (1, .int x1)] rfl 42 rfl dX5_readWord_41 (by decide) rfl ?_
    refine g_join 78 (fun a4 => [(0, .ref (wA Ω 472)), (1, .int x1)]) (fun a4 => []) (fun a4 => a2) ?_ ?_
    · intro a4
      refine g_aload_n 0 rfl rfl 79 rfl dX5_readWord_78 ?_
      refine g_iload_n 1 rfl rfl 80 rfl dX5_readWord_79 ?_
      refine w_put (lx_C hX) rfl in_X5 3 (by decide) wf_X5_38 tyX5 tyX5_ok nmX5 rfl rfl rfl rfl 83 rfl dX5_readWord_80 ?_
      intro M6
      refine g_null 84 rfl dX5_readWord_83 ?_
      exact g_aretEN (Or.inl ⟨_, rfl⟩) rfl dX5_readWord_84
    · intro k5 hk5
      refine g_join 66 (fun a7 => [(2, .int a7)]) (fun a7 => []) (fun a7 => a2) ?_ ?_
      · intro a7
        refine e_getsN (fun U hU => (hE U hU).2.1) wfn_X5_63 rfl 69 rfl dX5_readWord_66 ?_
        refine g_iload_n 0 rfl rfl 70 rfl dX5_readWord_69 ?_
        refine e_tq (fun U hU => (hE U hU).2.2.1) 71 rfl dX5_readWord_70 ?_
        intro hn9
        exact g_aretES (Or.inl ⟨_, rfl⟩) rfl dX5_readWord_71
      · intro k8 hk8
        refine g_sub [(0, .ref (wA Ω 472)), (1, .int x1), (2, .int 0)] [1, 2, 0] rfl ?_
        refine g_loop 42 (fun a10 => [(0, .ref (wA Ω 472)), (1, .int x1), (2, .int a10)]) (fun _ => []) (fun a10 => a2) ?_ FU 0
        intro k11 hk11 a10
        unfold fX5_readWord_L1
        refine g_iload_n 2 rfl rfl 43 rfl dX5_readWord_42 ?_
        refine e_getsN (fun U hU => (hE U hU).2.1) wfn_X5_63 rfl 46 rfl dX5_readWord_43 ?_
        refine s_tlen (fun U hU => (hE U hU).2.2.1) 6 rfl 47 rfl dX5_readWord_46 ?_
        refine g_icmp_ge 78 (by decide) 50 rfl dX5_readWord_47 ?_ ?_
        · refine g_sub [(0, .ref (wA Ω 472)), (1, .int x1)] [0, 1] rfl ?_
          exact hk5 ()
        · refine g_aload_n 0 rfl rfl 51 rfl dX5_readWord_50 ?_
          refine e_getsN (fun U hU => (hE U hU).2.1) wfn_X5_63 rfl 54 rfl dX5_readWord_51 ?_
          refine g_iload_n 2 rfl rfl 55 rfl dX5_readWord_54 ?_
          refine e_tq (fun U hU => (hE U hU).2.2.1) 56 rfl dX5_readWord_55 ?_
          intro hn12
          refine s_getf (fun U hU => ((hE U hU).1 a10.toNatClampNeg (inb_lt hn12)).2.1) wf_X5_66 rfl 59 rfl dX5_readWord_56 ?_
          refine g_iload_n 1 rfl rfl 60 rfl dX5_readWord_59 ?_
          refine p_cVI 472 [.ref (K (29 + a10.toNatClampNeg)), .int x1] [] (c_X5_isWord l hO hX hK (by have := (inb_lt hn12); omega) a2 x1) dX5_readWord_60 uv_X5_70 rfl yk_X5_isWord ⟨by decide, by decide⟩ (lx_C hX).1 (lx_C hX).2 rfl (Nat.le_of_ble_eq_true rfl) rfl 63 rfl ?_
          intro x13
          refine g_if_eq 72 (by decide) 66 rfl dX5_readWord_63 ?_ ?_
          · refine g_iinc 2 rfl 1 (by decide) (fun x14 => [(2, .int x14), (0, .ref (wA Ω 472)), (1, .int x1)]) 75 rfl dX5_readWord_72 (by decide) (fun _ => rfl) ?_
            intro x14
            refine g_goto 42 (by decide) dX5_readWord_75 ?_
            refine g_sub [(0, .ref (wA Ω 472)), (1, .int x1), (2, .int x14)] [1, 2, 0] rfl ?_
            exact hk11 x14
          · refine g_sub [(2, .int a10)] [2] rfl ?_
            exact hk8 a10
  · intro k3 hk3
    refine g_sub [(0, .ref (wA Ω 472)), (1, .int x1), (2, .int 0)] [2, 1, 0] rfl ?_
    refine g_loop 7 (fun a15 => [(0, .ref (wA Ω 472)), (1, .int x1), (2, .int a15.1)]) (fun _ => []) (fun a15 => a15.2) ?_ FU (0, M)
    intro k16 hk16 a15
    unfold fX5_readWord_L2
    refine g_iload_n 2 rfl rfl 8 rfl dX5_readWord_7 ?_
    refine g_bipush 60 10 rfl dX5_readWord_8 (by decide) ?_
    refine g_icmp_ge 40 (by decide) 13 rfl dX5_readWord_10 ?_ ?_
    · refine g_sub [(0, .ref (wA Ω 472)), (1, .int x1)] [0, 1] rfl ?_
      exact hk3 a15.2
    · refine g_aload_n 0 rfl rfl 14 rfl dX5_readWord_13 ?_
      refine g_bipush 97 16 rfl dX5_readWord_14 (by decide) ?_
      refine g_bipush 122 18 rfl dX5_readWord_16 (by decide) ?_
      refine p_cVI 472 [.int 97, .int 122] [] (c_X5_isNextWithin l hO hX a15.2 97 122) dX5_readWord_18 uv_X5_59 rfl yk_X5_isNextWithin ⟨by decide, by decide⟩ (lx_C hX).1 (lx_C hX).2 rfl (Nat.le_of_ble_eq_true rfl) rfl 21 rfl ?_
      intro x17
      refine g_if_eq 40 (by decide) 24 rfl dX5_readWord_21 ?_ ?_
      · refine g_sub [(0, .ref (wA Ω 472)), (1, .int x1)] [0, 1] rfl ?_
        exact hk3 a15.2
      · refine g_aload_n 0 rfl rfl 25 rfl dX5_readWord_24 ?_
        refine g_dup 26 rfl dX5_readWord_25 rfl ?_
        refine w_get (lx_C hX) rfl in_X5 2 (by decide) wf_X5_32 rfl 29 rfl dX5_readWord_26 ?_
        refine g_iconst 1 30 rfl dX5_readWord_29 (by decide) ?_
        refine g_iadd 31 rfl dX5_readWord_30 ?_
        refine w_put (lx_C hX) rfl in_X5 2 (by decide) wf_X5_32 tyX5 tyX5_ok nmX5 rfl rfl rfl rfl 34 rfl dX5_readWord_31 ?_
        intro M18
        refine g_iinc 2 rfl 1 (by decide) (fun x19 => [(2, .int x19), (0, .ref (wA Ω 472)), (1, .int x1)]) 37 rfl dX5_readWord_34 (by decide) (fun _ => rfl) ?_
        intro x19
        refine g_goto 7 (by decide) dX5_readWord_37 ?_
        refine g_sub [(0, .ref (wA Ω 472)), (1, .int x1), (2, .int x19)] [1, 2, 0] rfl ?_
        exact hk16 (x19, M18)
def fX4_write (M : Mem) (p0 : Int32) (j1 : Nat) (p2 : Int32) (p3 : Int32) : Option (Unit × Mem) := bnd (((1 <<< ((M j1 2) &&& 31)) - 1) &&& (p3 ^^^ (-1))) (fun x1 => bnd (mset M 477 0 0) (fun M2 => cl (fX4_addText M2 10) (fun u3 M4 => cl (fX4_addNumber M4 p0) (fun u5 M6 => cl (fX4_addText M6 11) (fun u7 M8 => cl (fX4_addNumber M8 (M8 j1 0)) (fun u9 M10 => cl (fX4_addText M10 12) (fun u11 M12 => cl (fX4_addNumber M12 (M12 j1 3)) (fun u13 M14 => cl (fX4_addText M14 13) (fun u15 M16 => cl (fX4_addNumber M16 p2) (fun u17 M18 => cl (fX4_addGroups M18 14 p3) (fun u19 M20 => cl (fX4_addGroups M20 18 x1) (fun u21 M22 => some ((), M22)))))))))))))
set_option maxRecDepth 100000 in
set_option maxHeartbeats 4000000 in
theorem c_X4_write {Ω : Wd} (l : Launch) (hO : OkW Ω) (hX : LX Ω) {K V : Nat → Nat} (hK : StrOk Ω K V) {j1 : Nat} (hj1 : isJ j1) (M : Mem) (p0 : Int32) (p2 : Int32) (p3 : Int32) : ∀ r, fX4_write M p0 j1 p2 p3 = some r → Ct l yX4_write (.code yX4_write cX4_write 6 none) 6 130 Ω [.ref (wA Ω 477), .int p0, .ref (wA Ω j1), .int p2, .int p3] M (cvV r) := by
  refine ofG [(0, .ref (wA Ω 477)), (1, .int p0), (2, .ref (wA Ω j1)), (3, .int p2), (4, .int p3)] hO (by decide) rfl (Nat.le_of_ble_eq_true rfl) rfl ?_
  intro p e s m args below meth c
  unfold fX4_write
  refine g_iconst 1 1 rfl dX4_write_0 (by decide) ?_
  refine g_aload_n 2 rfl rfl 2 rfl dX4_write_1 ?_
  refine w_get (lx_J hX hj1) rfl in_X2 2 (by decide) wf_X4_15 rfl 5 rfl dX4_write_2 ?_
  refine g_ishl 6 rfl dX4_write_5 ?_
  refine g_iconst 1 7 rfl dX4_write_6 (by decide) ?_
  refine g_isub 8 rfl dX4_write_7 ?_
  refine g_iload 4 rfl 10 rfl dX4_write_8 ?_
  refine g_iconst (-1) 11 rfl dX4_write_10 (by decide) ?_
  refine g_ixor 12 rfl dX4_write_11 ?_
  refine g_iand 13 rfl dX4_write_12 ?_
  refine g_istore (fun x1 => [(5, .int x1), (0, .ref (wA Ω 477)), (1, .int p0), (2, .ref (wA Ω j1)), (3, .int p2), (4, .int p3)]) 15 rfl dX4_write_13 (by decide) (fun _ => rfl) ?_
  intro x1
  refine g_aload_n 1 rfl rfl 16 rfl dX4_write_15 ?_
  refine g_iconst 0 17 rfl dX4_write_16 (by decide) ?_
  refine w_put (lx_R hX) rfl in_X4 0 (by decide) wf_X4_21 tyX4 tyX4_ok nmX4 rfl rfl rfl rfl 20 rfl dX4_write_17 ?_
  intro M2
  refine g_aload_n 1 rfl rfl 21 rfl dX4_write_20 ?_
  refine s_ldc hK 10 (by decide) rfl 23 rfl dX4_write_21 ?_
  refine g_cVV 477 [.ref (K 10)] [] (c_X4_addText l hO hX hK (by decide) M2) dX4_write_23 uv_X4_26 rfl yk_X4_addText ⟨by decide, by decide⟩ (lx_R hX).1 (lx_R hX).2 rfl (Nat.le_of_ble_eq_true rfl) rfl 26 rfl ?_
  intro u3 M4
  refine g_aload_n 1 rfl rfl 27 rfl dX4_write_26 ?_
  refine g_iload_n 2 rfl rfl 28 rfl dX4_write_27 ?_
  refine g_cVV 477 [.int p0] [] (c_X4_addNumber l hO hX M4 p0) dX4_write_28 uv_X4_30 rfl yk_X4_addNumber ⟨by decide, by decide⟩ (lx_R hX).1 (lx_R hX).2 rfl (Nat.le_of_ble_eq_true rfl) rfl 31 rfl ?_
  intro u5 M6
  refine g_aload_n 1 rfl rfl 32 rfl dX4_write_31 ?_
  refine s_ldc hK 11 (by decide) rfl 34 rfl dX4_write_32 ?_
  refine g_cVV 477 [.ref (K 11)] [] (c_X4_addText l hO hX hK (by decide) M6) dX4_write_34 uv_X4_26 rfl yk_X4_addText ⟨by decide, by decide⟩ (lx_R hX).1 (lx_R hX).2 rfl (Nat.le_of_ble_eq_true rfl) rfl 37 rfl ?_
  intro u7 M8
  refine g_aload_n 1 rfl rfl 38 rfl dX4_write_37 ?_
  refine g_aload_n 3 rfl rfl 39 rfl dX4_write_38 ?_
  refine w_get (lx_J hX hj1) rfl in_X2 0 (by decide) wf_X4_36 rfl 42 rfl dX4_write_39 ?_
  refine g_cVV 477 [.int (M8 j1 0)] [] (c_X4_addNumber l hO hX M8 (M8 j1 0)) dX4_write_42 uv_X4_30 rfl yk_X4_addNumber ⟨by decide, by decide⟩ (lx_R hX).1 (lx_R hX).2 rfl (Nat.le_of_ble_eq_true rfl) rfl 45 rfl ?_
  intro u9 M10
  refine g_aload_n 1 rfl rfl 46 rfl dX4_write_45 ?_
  refine s_ldc hK 12 (by decide) rfl 48 rfl dX4_write_46 ?_
  refine g_cVV 477 [.ref (K 12)] [] (c_X4_addText l hO hX hK (by decide) M10) dX4_write_48 uv_X4_26 rfl yk_X4_addText ⟨by decide, by decide⟩ (lx_R hX).1 (lx_R hX).2 rfl (Nat.le_of_ble_eq_true rfl) rfl 51 rfl ?_
  intro u11 M12
  refine g_aload_n 1 rfl rfl 52 rfl dX4_write_51 ?_
  refine g_aload_n 3 rfl rfl 53 rfl dX4_write_52 ?_
  refine w_get (lx_J hX hj1) rfl in_X2 3 (by decide) wf_X4_41 rfl 56 rfl dX4_write_53 ?_
  refine g_cVV 477 [.int (M12 j1 3)] [] (c_X4_addNumber l hO hX M12 (M12 j1 3)) dX4_write_56 uv_X4_30 rfl yk_X4_addNumber ⟨by decide, by decide⟩ (lx_R hX).1 (lx_R hX).2 rfl (Nat.le_of_ble_eq_true rfl) rfl 59 rfl ?_
  intro u13 M14
  refine g_aload_n 1 rfl rfl 60 rfl dX4_write_59 ?_
  refine s_ldc hK 13 (by decide) rfl 62 rfl dX4_write_60 ?_
  refine g_cVV 477 [.ref (K 13)] [] (c_X4_addText l hO hX hK (by decide) M14) dX4_write_62 uv_X4_26 rfl yk_X4_addText ⟨by decide, by decide⟩ (lx_R hX).1 (lx_R hX).2 rfl (Nat.le_of_ble_eq_true rfl) rfl 65 rfl ?_
  intro u15 M16
  refine g_aload_n 1 rfl rfl 66 rfl dX4_write_65 ?_
  refine g_iload_n 4 rfl rfl 67 rfl dX4_write_66 ?_
  refine g_cVV 477 [.int p2] [] (c_X4_addNumber l hO hX M16 p2) dX4_write_67 uv_X4_30 rfl yk_X4_addNumber ⟨by decide, by decide⟩ (lx_R hX).1 (lx_R hX).2 rfl (Nat.le_of_ble_eq_true rfl) rfl 70 rfl ?_
  intro u17 M18
  refine g_aload_n 1 rfl rfl 71 rfl dX4_write_70 ?_
  refine s_ldc hK 14 (by decide) rfl 73 rfl dX4_write_71 ?_
  refine g_iload 5 rfl 75 rfl dX4_write_73 ?_
  refine g_cVV 477 [.ref (K 14), .int p3] [] (c_X4_addGroups l hO hX hK (by decide) M18 p3) dX4_write_75 uv_X4_48 rfl yk_X4_addGroups ⟨by decide, by decide⟩ (lx_R hX).1 (lx_R hX).2 rfl (Nat.le_of_ble_eq_true rfl) rfl 78 rfl ?_
  intro u19 M20
  refine g_aload_n 1 rfl rfl 79 rfl dX4_write_78 ?_
  refine s_ldc hK 18 (by decide) rfl 81 rfl dX4_write_79 ?_
  refine g_iload 0 rfl 83 rfl dX4_write_81 ?_
  refine g_cVV 477 [.ref (K 18), .int x1] [] (c_X4_addGroups l hO hX hK (by decide) M20 x1) dX4_write_83 uv_X4_48 rfl yk_X4_addGroups ⟨by decide, by decide⟩ (lx_R hX).1 (lx_R hX).2 rfl (Nat.le_of_ble_eq_true rfl) rfl 86 rfl ?_
  intro u21 M22
  exact g_vret rfl dX4_write_86
def fX5_readCommand_L1 (p0 : Int32) (o3 : Nat) (k9 : Mem → Option (Unit × Mem)) (k14 : (Int32 × Mem) → Option (Unit × Mem)) (a13 : Int32 × Mem) : Option (Unit × Mem) := if nw o3 ≤ a13.1 then (k9 a13.2) else (if 5 ≤ a13.1 then (k9 a13.2) else (jn (fun (a15 : Mem) => cl (fX5_readNumber a15) (fun x17 M18 => grd (inb ((p0 * 5) + a13.1) 50) (bnd (mset M18 476 ((p0 * 5) + a13.1).toNatClampNeg x17) (fun M19 => bnd (a13.1 + 1) (fun x20 => k14 (x20, M19)))))) (fun k16 => if a13.1 ≤ 0 then (k16 a13.2) else (cl (fX5_readSign a13.2 44) (fun u21 M22 => k16 M22)))))
def fX5_readCommand (M : Mem) (p0 : Int32) : Option (Unit × Mem) := grd (inb p0 10) (bnd (mset M 474 p0.toNatClampNeg (M 472 2)) (fun M1 => cln (fX5_readWord M1) (fun M2 => some ((), M2)) (fun o3 M4 => grd (decide (o3 < 6)) (grd (inb p0 10) (bnd (mset M4 475 p0.toNatClampNeg (nI o3)) (fun M5 => cl (fX5_readSign M5 58) (fun u6 M7 => jn (fun (a8 : Mem) => cl (fX5_readSign a8 59) (fun u10 M11 => bnd (mset M11 472 1 ((M11 472 1) + 1)) (fun M12 => some ((), M12)))) (fun k9 => lp (fX5_readCommand_L1 p0 o3 k9) FU (0, M7)))))))))
set_option maxRecDepth 100000 in
set_option maxHeartbeats 4000000 in
theorem c_X5_readCommand {Ω : Wd} (l : Launch) (hO : OkW Ω) (hX : LX Ω) {K V : Nat → Nat} (hK : StrOk Ω K V) {E : Nat → Nat} {t0 t1 : Nat} (hE : EnOk Ω E K t0 t1) (hW : WA Ω E)  (M : Mem) (p0 : Int32) : ∀ r, fX5_readCommand M p0 = some r → Ct l yX5_readCommand (.code yX5_readCommand cX5_readCommand 4 none) 6 130 Ω [.ref (wA Ω 472), .int p0] M (cvV r) := by
  refine ofG [(0, .ref (wA Ω 472)), (1, .int p0)] hO (by decide) rfl (Nat.le_of_ble_eq_true rfl) rfl ?_
  intro p e s m args below meth c
  unfold fX5_readCommand
  refine g_aload_n 0 rfl rfl 1 rfl dX5_readCommand_0 ?_
  refine w_getR (lx_C hX) rfl in_X5 5 (by decide) wf_X5_15 474 rfl 4 rfl dX5_readCommand_1 ?_
  refine g_iload_n 1 rfl rfl 5 rfl dX5_readCommand_4 ?_
  refine g_aload_n 0 rfl rfl 6 rfl dX5_readCommand_5 ?_
  refine w_get (lx_C hX) rfl in_X5 2 (by decide) wf_X5_32 rfl 9 rfl dX5_readCommand_6 ?_
  refine w_iast (lx_C2 hX) 10 rfl dX5_readCommand_9 ?_
  intro M1
  refine g_aload_n 0 rfl rfl 11 rfl dX5_readCommand_10 ?_
  refine g_cVE (E := E) 472 [] [] (c_X5_readWord l hO hX hK hE hW M1) dX5_readCommand_11 uv_X5_45 rfl yk_X5_readWord ⟨by decide, by decide⟩ (lx_C hX).1 (lx_C hX).2 rfl (Nat.le_of_ble_eq_true rfl) rfl 14 rfl ?_ ?_
  · intro M2
    refine g_astore_nNA [(2, .null), (0, .ref (wA Ω 472)), (1, .int p0)] rfl 15 rfl dX5_readCommand_14 (by decide) rfl ?_
    refine g_aload_nN 0 rfl rfl 16 rfl dX5_readCommand_15 ?_
    refine g_ifnonnullN 19 rfl dX5_readCommand_16 ?_
    exact g_vret rfl dX5_readCommand_19
  · intro o3 M4
    refine g_grd (fun ho30 => ?_)
    have ho3 := of_decide_eq_true ho30
    refine g_astore_nA [(2, .ref (E o3)), (0, .ref (wA Ω 472)), (1, .int p0)] rfl 15 rfl dX5_readCommand_14 (by decide) rfl ?_
    refine g_aload_n 0 rfl rfl 16 rfl dX5_readCommand_15 ?_
    refine g_ifnonnull 20 (by decide) dX5_readCommand_16 ?_
    refine g_aload_n 1 rfl rfl 21 rfl dX5_readCommand_20 ?_
    refine w_getR (lx_C hX) rfl in_X5 6 (by decide) wf_X5_21 475 rfl 24 rfl dX5_readCommand_21 ?_
    refine g_iload_n 2 rfl rfl 25 rfl dX5_readCommand_24 ?_
    refine g_aload_n 0 rfl rfl 26 rfl dX5_readCommand_25 ?_
    refine e_wst hW o3 ho3 hE 27 rfl dX5_readCommand_26 ?_
    intro M5
    refine g_aload_n 1 rfl rfl 28 rfl dX5_readCommand_27 ?_
    refine g_bipush 58 30 rfl dX5_readCommand_28 (by decide) ?_
    refine g_cVV 472 [.int 58] [] (c_X5_readSign l hO hX M5 58) dX5_readCommand_30 uv_X5_49 rfl yk_X5_readSign ⟨by decide, by decide⟩ (lx_C hX).1 (lx_C hX).2 rfl (Nat.le_of_ble_eq_true rfl) rfl 33 rfl ?_
    intro u6 M7
    refine g_iconst 0 34 rfl dX5_readCommand_33 (by decide) ?_
    refine g_istore_nA [(3, .int 0), (2, .ref (E o3)), (0, .ref (wA Ω 472)), (1, .int p0)] rfl 35 rfl dX5_readCommand_34 (by decide) rfl ?_
    refine g_join 78 (fun a8 => [(0, .ref (wA Ω 472))]) (fun a8 => []) (fun a8 => a8) ?_ ?_
    · intro a8
      refine g_aload_n 0 rfl rfl 79 rfl dX5_readCommand_78 ?_
      refine g_bipush 59 81 rfl dX5_readCommand_79 (by decide) ?_
      refine g_cVV 472 [.int 59] [] (c_X5_readSign l hO hX a8 59) dX5_readCommand_81 uv_X5_49 rfl yk_X5_readSign ⟨by decide, by decide⟩ (lx_C hX).1 (lx_C hX).2 rfl (Nat.le_of_ble_eq_true rfl) rfl 84 rfl ?_
      intro u10 M11
      refine g_aload_n 0 rfl rfl 85 rfl dX5_readCommand_84 ?_
      refine g_dup 86 rfl dX5_readCommand_85 rfl ?_
      refine w_get (lx_C hX) rfl in_X5 1 (by decide) wf_X5_35 rfl 89 rfl dX5_readCommand_86 ?_
      refine g_iconst 1 90 rfl dX5_readCommand_89 (by decide) ?_
      refine g_iadd 91 rfl dX5_readCommand_90 ?_
      refine w_put (lx_C hX) rfl in_X5 1 (by decide) wf_X5_35 tyX5 tyX5_ok nmX5 rfl rfl rfl rfl 94 rfl dX5_readCommand_91 ?_
      intro M12
      exact g_vret rfl dX5_readCommand_94
    · intro k9 hk9
      refine g_sub [(0, .ref (wA Ω 472)), (1, .int p0), (2, .ref (E o3)), (3, .int 0)] [2, 3, 1, 0] rfl ?_
      refine g_loop 35 (fun a13 => [(0, .ref (wA Ω 472)), (1, .int p0), (2, .ref (E o3)), (3, .int a13.1)]) (fun _ => []) (fun a13 => a13.2) ?_ FU (0, M7)
      intro k14 hk14 a13
      unfold fX5_readCommand_L1
      refine g_iload_n 3 rfl rfl 36 rfl dX5_readCommand_35 ?_
      refine g_aload_n 2 rfl rfl 37 rfl dX5_readCommand_36 ?_
      refine s_getf (fun U hU => ((hE U hU).1 o3 ho3).2.2.1) wf_X5_53 rfl 40 rfl dX5_readCommand_37 ?_
      refine g_icmp_ge 78 (by decide) 43 rfl dX5_readCommand_40 ?_ ?_
      · refine g_sub [(0, .ref (wA Ω 472))] [0] rfl ?_
        exact hk9 a13.2
      · refine g_iload_n 3 rfl rfl 44 rfl dX5_readCommand_43 ?_
        refine g_iconst 5 45 rfl dX5_readCommand_44 (by decide) ?_
        refine g_icmp_ge 78 (by decide) 48 rfl dX5_readCommand_45 ?_ ?_
        · refine g_sub [(0, .ref (wA Ω 472))] [0] rfl ?_
          exact hk9 a13.2
        · refine g_iload_n 3 rfl rfl 49 rfl dX5_readCommand_48 ?_
          refine g_join 58 (fun a15 => [(0, .ref (wA Ω 472)), (1, .int p0), (2, .ref (E o3)), (3, .int a13.1)]) (fun a15 => []) (fun a15 => a15) ?_ ?_
          · intro a15
            refine g_aload_n 0 rfl rfl 59 rfl dX5_readCommand_58 ?_
            refine w_getR (lx_C hX) rfl in_X5 7 (by decide) wf_X5_25 476 rfl 62 rfl dX5_readCommand_59 ?_
            refine g_iload_n 1 rfl rfl 63 rfl dX5_readCommand_62 ?_
            refine g_iconst 5 64 rfl dX5_readCommand_63 (by decide) ?_
            refine g_imul 65 rfl dX5_readCommand_64 ?_
            refine g_iload_n 3 rfl rfl 66 rfl dX5_readCommand_65 ?_
            refine g_iadd 67 rfl dX5_readCommand_66 ?_
            refine g_aload_n 0 rfl rfl 68 rfl dX5_readCommand_67 ?_
            refine g_cVI 472 [] [.int ((p0 * 5) + a13.1), .ref (wA Ω 476)] (c_X5_readNumber l hO hX a15) dX5_readCommand_68 uv_X5_55 rfl yk_X5_readNumber ⟨by decide, by decide⟩ (lx_C hX).1 (lx_C hX).2 rfl (Nat.le_of_ble_eq_true rfl) rfl 71 rfl ?_
            intro x17 M18
            refine w_iast (lx_C4 hX) 72 rfl dX5_readCommand_71 ?_
            intro M19
            refine g_iinc 3 rfl 1 (by decide) (fun x20 => [(3, .int x20), (0, .ref (wA Ω 472)), (1, .int p0), (2, .ref (E o3))]) 75 rfl dX5_readCommand_72 (by decide) (fun _ => rfl) ?_
            intro x20
            refine g_goto 35 (by decide) dX5_readCommand_75 ?_
            refine g_sub [(0, .ref (wA Ω 472)), (1, .int p0), (2, .ref (E o3)), (3, .int x20)] [1, 2, 3, 0] rfl ?_
            exact hk14 (x20, M19)
          · intro k16 hk16
            refine g_if_le 58 (by decide) 52 rfl dX5_readCommand_49 ?_ ?_
            · exact hk16 a13.2
            · refine g_aload_n 0 rfl rfl 53 rfl dX5_readCommand_52 ?_
              refine g_bipush 44 55 rfl dX5_readCommand_53 (by decide) ?_
              refine g_cVV 472 [.int 44] [] (c_X5_readSign l hO hX a13.2 44) dX5_readCommand_55 uv_X5_49 rfl yk_X5_readSign ⟨by decide, by decide⟩ (lx_C hX).1 (lx_C hX).2 rfl (Nat.le_of_ble_eq_true rfl) rfl 58 rfl ?_
              intro u21 M22
              exact hk16 M22
def fX5_read_L1 (k5 : Mem → Option (Int32 × Mem)) (k7 : (Int32 × Mem) → Option (Int32 × Mem)) (a6 : Int32 × Mem) : Option (Int32 × Mem) := if 10 ≤ a6.1 then (k5 a6.2) else (if a6.2 472 3 = (-1) then (jn (fun (a8 : Unit) => cl (fX5_readCommand a6.2 a6.1) (fun u10 M11 => bnd (a6.1 + 1) (fun x12 => k7 (x12, M11)))) (fun k9 => if a6.1 = 0 then (k9 ()) else (if a6.2 472 0 ≤ a6.2 472 2 then (k5 a6.2) else (k9 ())))) else (k5 a6.2))
def fX5_read (M : Mem)  : Option (Int32 × Mem) := bnd (mset M 472 2 0) (fun M1 => bnd (mset M1 472 1 0) (fun M2 => bnd (mset M2 472 3 (-1)) (fun M3 => jn (fun (a4 : Mem) => some (a4 472 3, a4)) (fun k5 => lp (fX5_read_L1 k5) FU (0, M3)))))
set_option maxRecDepth 100000 in
set_option maxHeartbeats 4000000 in
theorem c_X5_read {Ω : Wd} (l : Launch) (hO : OkW Ω) (hX : LX Ω) {K V : Nat → Nat} (hK : StrOk Ω K V) {E : Nat → Nat} {t0 t1 : Nat} (hE : EnOk Ω E K t0 t1) (hW : WA Ω E)  (M : Mem)  : ∀ r, fX5_read M  = some r → Ct l yX5_read (.code yX5_read cX5_read 2 (some .int)) 7 153 Ω [.ref (wA Ω 472)] M (cvI r) := by
  refine ofG [(0, .ref (wA Ω 472))] hO (by decide) rfl (Nat.le_of_ble_eq_true rfl) rfl ?_
  intro p e s m args below meth c
  unfold fX5_read
  refine g_aload_n 0 rfl rfl 1 rfl dX5_read_0 ?_
  refine g_iconst 0 2 rfl dX5_read_1 (by decide) ?_
  refine w_put (lx_C hX) rfl in_X5 2 (by decide) wf_X5_32 tyX5 tyX5_ok nmX5 rfl rfl rfl rfl 5 rfl dX5_read_2 ?_
  intro M1
  refine g_aload_n 0 rfl rfl 6 rfl dX5_read_5 ?_
  refine g_iconst 0 7 rfl dX5_read_6 (by decide) ?_
  refine w_put (lx_C hX) rfl in_X5 1 (by decide) wf_X5_35 tyX5 tyX5_ok nmX5 rfl rfl rfl rfl 10 rfl dX5_read_7 ?_
  intro M2
  refine g_aload_n 0 rfl rfl 11 rfl dX5_read_10 ?_
  refine g_iconst (-1) 12 rfl dX5_read_11 (by decide) ?_
  refine w_put (lx_C hX) rfl in_X5 3 (by decide) wf_X5_38 tyX5 tyX5_ok nmX5 rfl rfl rfl rfl 15 rfl dX5_read_12 ?_
  intro M3
  refine g_iconst 0 16 rfl dX5_read_15 (by decide) ?_
  refine g_istore_nA [(1, .int 0), (0, .ref (wA Ω 472))] rfl 17 rfl dX5_read_16 (by decide) rfl ?_
  refine g_join 57 (fun a4 => [(0, .ref (wA Ω 472))]) (fun a4 => []) (fun a4 => a4) ?_ ?_
  · intro a4
    refine g_aload_n 0 rfl rfl 58 rfl dX5_read_57 ?_
    refine w_get (lx_C hX) rfl in_X5 3 (by decide) wf_X5_38 rfl 61 rfl dX5_read_58 ?_
    exact g_iret rfl dX5_read_61
  · intro k5 hk5
    refine g_sub [(0, .ref (wA Ω 472)), (1, .int 0)] [1, 0] rfl ?_
    refine g_loop 17 (fun a6 => [(0, .ref (wA Ω 472)), (1, .int a6.1)]) (fun _ => []) (fun a6 => a6.2) ?_ FU (0, M3)
    intro k7 hk7 a6
    unfold fX5_read_L1
    refine g_iload_n 1 rfl rfl 18 rfl dX5_read_17 ?_
    refine g_bipush 10 20 rfl dX5_read_18 (by decide) ?_
    refine g_icmp_ge 57 (by decide) 23 rfl dX5_read_20 ?_ ?_
    · refine g_sub [(0, .ref (wA Ω 472))] [0] rfl ?_
      exact hk5 a6.2
    · refine g_aload_n 0 rfl rfl 24 rfl dX5_read_23 ?_
      refine w_get (lx_C hX) rfl in_X5 3 (by decide) wf_X5_38 rfl 27 rfl dX5_read_24 ?_
      refine g_iconst (-1) 28 rfl dX5_read_27 (by decide) ?_
      refine g_icmp_ne 57 (by decide) 31 rfl dX5_read_28 ?_ ?_
      · refine g_iload_n 1 rfl rfl 32 rfl dX5_read_31 ?_
        refine g_join 46 (fun a8 => [(0, .ref (wA Ω 472)), (1, .int a6.1)]) (fun a8 => []) (fun a8 => a6.2) ?_ ?_
        · intro a8
          refine g_aload_n 0 rfl rfl 47 rfl dX5_read_46 ?_
          refine g_iload_n 1 rfl rfl 48 rfl dX5_read_47 ?_
          refine g_cVV 472 [.int a6.1] [] (c_X5_readCommand l hO hX hK hE hW a6.2 a6.1) dX5_read_48 uv_X5_41 rfl yk_X5_readCommand ⟨by decide, by decide⟩ (lx_C hX).1 (lx_C hX).2 rfl (Nat.le_of_ble_eq_true rfl) rfl 51 rfl ?_
          intro u10 M11
          refine g_iinc 1 rfl 1 (by decide) (fun x12 => [(1, .int x12), (0, .ref (wA Ω 472))]) 54 rfl dX5_read_51 (by decide) (fun _ => rfl) ?_
          intro x12
          refine g_goto 17 (by decide) dX5_read_54 ?_
          refine g_sub [(0, .ref (wA Ω 472)), (1, .int x12)] [1, 0] rfl ?_
          exact hk7 (x12, M11)
        · intro k9 hk9
          refine g_if_eq 46 (by decide) 35 rfl dX5_read_32 ?_ ?_
          · exact hk9 ()
          · refine g_aload_n 0 rfl rfl 36 rfl dX5_read_35 ?_
            refine w_get (lx_C hX) rfl in_X5 2 (by decide) wf_X5_32 rfl 39 rfl dX5_read_36 ?_
            refine g_aload_n 0 rfl rfl 40 rfl dX5_read_39 ?_
            refine w_get (lx_C hX) rfl in_X5 0 (by decide) wf_X5_28 rfl 43 rfl dX5_read_40 ?_
            refine g_icmp_ge 57 (by decide) 46 rfl dX5_read_43 ?_ ?_
            · refine g_sub [(0, .ref (wA Ω 472))] [0] rfl ?_
              exact hk5 a6.2
            · exact hk9 ()
      · refine g_sub [(0, .ref (wA Ω 472))] [0] rfl ?_
        exact hk5 a6.2
