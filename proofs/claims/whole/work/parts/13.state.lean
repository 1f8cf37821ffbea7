def fX6_copyFrom_L1 (t : Nat) (t0 : Nat) (k6 : (Int32 × Mem) → Option (Unit × Mem)) (a5 : Int32 × Mem) : Option (Unit × Mem) := if 4 ≤ a5.1 then (some ((), a5.2)) else (grd (inb a5.1 4) (grd (inb a5.1 4) (cl (fX2_copyFrom a5.2 (t + 2 + 10 * a5.1.toNatClampNeg) (t0 + 2 + 10 * a5.1.toNatClampNeg)) (fun u9 M10 => bnd (a5.1 + 1) (fun x11 => k6 (x11, M10))))))
def fX6_copyFrom (M : Mem) (t : Nat) (t0 : Nat) : Option (Unit × Mem) := bnd (mset M t 0 (M t0 0)) (fun M1 => bnd (mset M1 t 1 (M1 t0 1)) (fun M2 => bnd (mset M2 t 2 (M2 t0 2)) (fun M3 => bnd (mset M3 t 3 (M3 t0 3)) (fun M4 => lp (fX6_copyFrom_L1 t t0) FU (0, M4)))))
set_option maxRecDepth 100000 in
set_option maxHeartbeats 4000000 in
theorem c_X6_copyFrom {Ω : Wd} (l : Launch) (hO : OkW Ω) (hX : LX Ω) {t : Nat} (ht : isS t) {t0 : Nat} (ht0 : isS t0) (M : Mem)  : ∀ r, fX6_copyFrom M t t0 = some r → Ct l yX6_copyFrom (.code yX6_copyFrom cX6_copyFrom 3 none) 2 47 Ω [.ref (wA Ω t), .ref (wA Ω t0)] M (cvV r) := by
  refine ofG [(0, .ref (wA Ω t)), (1, .ref (wA Ω t0))] hO (by decide) rfl (Nat.le_of_ble_eq_true rfl) rfl ?_
  intro p e s m args below meth c
  unfold fX6_copyFrom
  refine g_aload_n 0 rfl rfl 1 rfl dX6_copyFrom_0 ?_
  refine g_aload_n 1 rfl rfl 2 rfl dX6_copyFrom_1 ?_
  refine w_get (lx_S hX ht0) rfl in_X6 0 (by decide) wf_X6_9 rfl 5 rfl dX6_copyFrom_2 ?_
  refine w_put (lx_S hX ht) rfl in_X6 0 (by decide) wf_X6_9 tyX6 tyX6_ok nmX6 rfl rfl rfl rfl 8 rfl dX6_copyFrom_5 ?_
  intro M1
  refine g_aload_n 0 rfl rfl 9 rfl dX6_copyFrom_8 ?_
  refine g_aload_n 1 rfl rfl 10 rfl dX6_copyFrom_9 ?_
  refine w_get (lx_S hX ht0) rfl in_X6 1 (by decide) wf_X6_15 rfl 13 rfl dX6_copyFrom_10 ?_
  refine w_put (lx_S hX ht) rfl in_X6 1 (by decide) wf_X6_15 tyX6 tyX6_ok nmX6 rfl rfl rfl rfl 16 rfl dX6_copyFrom_13 ?_
  intro M2
  refine g_aload_n 0 rfl rfl 17 rfl dX6_copyFrom_16 ?_
  refine g_aload_n 1 rfl rfl 18 rfl dX6_copyFrom_17 ?_
  refine w_get (lx_S hX ht0) rfl in_X6 2 (by decide) wf_X6_25 rfl 21 rfl dX6_copyFrom_18 ?_
  refine w_put (lx_S hX ht) rfl in_X6 2 (by decide) wf_X6_25 tyX6 tyX6_ok nmX6 rfl rfl rfl rfl 24 rfl dX6_copyFrom_21 ?_
  intro M3
  refine g_aload_n 0 rfl rfl 25 rfl dX6_copyFrom_24 ?_
  refine g_aload_n 1 rfl rfl 26 rfl dX6_copyFrom_25 ?_
  refine w_get (lx_S hX ht0) rfl in_X6 3 (by decide) wf_X6_28 rfl 29 rfl dX6_copyFrom_26 ?_
  refine w_put (lx_S hX ht) rfl in_X6 3 (by decide) wf_X6_28 tyX6 tyX6_ok nmX6 rfl rfl rfl rfl 32 rfl dX6_copyFrom_29 ?_
  intro M4
  refine g_iconst 0 33 rfl dX6_copyFrom_32 (by decide) ?_
  refine g_istore_nA [(2, .int 0), (0, .ref (wA Ω t)), (1, .ref (wA Ω t0))] rfl 34 rfl dX6_copyFrom_33 (by decide) rfl ?_
  refine g_sub [(0, .ref (wA Ω t)), (1, .ref (wA Ω t0)), (2, .int 0)] [1, 2, 0] rfl ?_
  refine g_loop 34 (fun a5 => [(0, .ref (wA Ω t)), (1, .ref (wA Ω t0)), (2, .int a5.1)]) (fun _ => []) (fun a5 => a5.2) ?_ FU (0, M4)
  intro k6 hk6 a5
  unfold fX6_copyFrom_L1
  refine g_iload_n 2 rfl rfl 35 rfl dX6_copyFrom_34 ?_
  refine g_iconst 4 36 rfl dX6_copyFrom_35 (by decide) ?_
  refine g_icmp_ge 60 (by decide) 39 rfl dX6_copyFrom_36 ?_ ?_
  · exact g_vret rfl dX6_copyFrom_60
  · refine g_aload_n 0 rfl rfl 40 rfl dX6_copyFrom_39 ?_
    refine w_getR (lx_S hX ht) rfl in_X6 4 (by decide) wf_X6_20 (t + 1) rfl 43 rfl dX6_copyFrom_40 ?_
    refine g_iload_n 2 rfl rfl 44 rfl dX6_copyFrom_43 ?_
    refine w_aald (lx_S1 hX ht) 45 rfl dX6_copyFrom_44 ?_
    intro hn7
    refine g_aload_n 1 rfl rfl 46 rfl dX6_copyFrom_45 ?_
    refine w_getR (lx_S hX ht0) rfl in_X6 4 (by decide) wf_X6_20 (t0 + 1) rfl 49 rfl dX6_copyFrom_46 ?_
    refine g_iload_n 2 rfl rfl 50 rfl dX6_copyFrom_49 ?_
    refine w_aald (lx_S1 hX ht0) 51 rfl dX6_copyFrom_50 ?_
    intro hn8
    refine g_cVV (t + 2 + 10 * a5.1.toNatClampNeg) [.ref (wA Ω (t0 + 2 + 10 * a5.1.toNatClampNeg))] [] (c_X2_copyFrom l hO hX (isJ_S ht hn7) (isJ_S ht0 hn8) a5.2) dX6_copyFrom_51 uv_X6_31 rfl yk_X2_copyFrom ⟨by decide, by decide⟩ (lx_J hX (isJ_S ht hn7)).1 (lx_J hX (isJ_S ht hn7)).2 rfl (Nat.le_of_ble_eq_true rfl) rfl 54 rfl ?_
    intro u9 M10
    refine g_iinc 2 rfl 1 (by decide) (fun x11 => [(2, .int x11), (0, .ref (wA Ω t)), (1, .ref (wA Ω t0))]) 57 rfl dX6_copyFrom_54 (by decide) (fun _ => rfl) ?_
    intro x11
    refine g_goto 34 (by decide) dX6_copyFrom_57 ?_
    refine g_sub [(0, .ref (wA Ω t)), (1, .ref (wA Ω t0)), (2, .int x11)] [1, 2, 0] rfl ?_
    exact hk6 (x11, M10)
def fX6_lastPosition (M : Mem) (t : Nat) : Option Int32 := jn (fun (a1 : Int32) => some a1) (fun k2 => if M t 3 ≤ 0 then (k2 (-1)) else (grd (inb ((M t 3) - 1) 4) (k2 (M (t + 2 + 10 * ((M t 3) - 1).toNatClampNeg) 0))))
set_option maxRecDepth 100000 in
set_option maxHeartbeats 4000000 in
theorem c_X6_lastPosition {Ω : Wd} (l : Launch) (hO : OkW Ω) (hX : LX Ω) {t : Nat} (ht : isS t) (M : Mem)  : ∀ r, fX6_lastPosition M t = some r → Ct l yX6_lastPosition (.code yX6_lastPosition cX6_lastPosition 1 (some .int)) 0 0 Ω [.ref (wA Ω t)] M ((cpI M) r) := by
  refine ofG [(0, .ref (wA Ω t))] hO (by decide) rfl (Nat.le_of_ble_eq_true rfl) rfl ?_
  intro p e s m args below meth c
  unfold fX6_lastPosition
  refine g_aload_n 0 rfl rfl 1 rfl dX6_lastPosition_0 ?_
  refine w_get (lx_S hX ht) rfl in_X6 3 (by decide) wf_X6_28 rfl 4 rfl dX6_lastPosition_1 ?_
  refine g_join 25 (fun a1 => []) (fun a1 => [.int a1]) (fun a1 => M) ?_ ?_
  · intro a1
    exact p_iret rfl dX6_lastPosition_25
  · intro k2 hk2
    refine g_if_le 24 (by decide) 7 rfl dX6_lastPosition_4 ?_ ?_
    · refine g_iconst (-1) 25 rfl dX6_lastPosition_24 (by decide) ?_
      refine g_sub [] [] rfl ?_
      exact hk2 (-1)
    · refine g_aload_n 0 rfl rfl 8 rfl dX6_lastPosition_7 ?_
      refine w_getR (lx_S hX ht) rfl in_X6 4 (by decide) wf_X6_20 (t + 1) rfl 11 rfl dX6_lastPosition_8 ?_
      refine g_aload_n 0 rfl rfl 12 rfl dX6_lastPosition_11 ?_
      refine w_get (lx_S hX ht) rfl in_X6 3 (by decide) wf_X6_28 rfl 15 rfl dX6_lastPosition_12 ?_
      refine g_iconst 1 16 rfl dX6_lastPosition_15 (by decide) ?_
      refine g_isub 17 rfl dX6_lastPosition_16 ?_
      refine w_aald (lx_S1 hX ht) 18 rfl dX6_lastPosition_17 ?_
      intro hn3
      refine w_get (lx_J hX (isJ_S ht hn3)) rfl in_X2 0 (by decide) wf_X6_39 rfl 21 rfl dX6_lastPosition_18 ?_
      refine g_goto 25 (by decide) dX6_lastPosition_21 ?_
      refine g_sub [] [] rfl ?_
      exact hk2 (M (t + 2 + 10 * ((M t 3) - 1).toNatClampNeg) 0)
def fX6_addJunction (M : Mem) (t : Nat) (p0 : Int32) : Option (Int32 × Mem) := grd (inb (M t 3) 4) (bnd (mset M (t + 2 + 10 * (M t 3).toNatClampNeg) 0 p0) (fun M2 => bnd (mset M2 t 3 ((M2 t 3) + 1)) (fun M3 => some ((M3 t 3) - 1, M3))))
set_option maxRecDepth 100000 in
set_option maxHeartbeats 4000000 in
theorem c_X6_addJunction {Ω : Wd} (l : Launch) (hO : OkW Ω) (hX : LX Ω) {t : Nat} (ht : isS t) (M : Mem) (p0 : Int32) : ∀ r, fX6_addJunction M t p0 = some r → Ct l yX6_addJunction (.code yX6_addJunction cX6_addJunction 2 (some .int)) 0 0 Ω [.ref (wA Ω t), .int p0] M (cvI r) := by
  refine ofG [(0, .ref (wA Ω t)), (1, .int p0)] hO (by decide) rfl (Nat.le_of_ble_eq_true rfl) rfl ?_
  intro p e s m args below meth c
  unfold fX6_addJunction
  refine g_aload_n 0 rfl rfl 1 rfl dX6_addJunction_0 ?_
  refine w_getR (lx_S hX ht) rfl in_X6 4 (by decide) wf_X6_20 (t + 1) rfl 4 rfl dX6_addJunction_1 ?_
  refine g_aload_n 0 rfl rfl 5 rfl dX6_addJunction_4 ?_
  refine w_get (lx_S hX ht) rfl in_X6 3 (by decide) wf_X6_28 rfl 8 rfl dX6_addJunction_5 ?_
  refine w_aald (lx_S1 hX ht) 9 rfl dX6_addJunction_8 ?_
  intro hn1
  refine g_iload_n 1 rfl rfl 10 rfl dX6_addJunction_9 ?_
  refine w_put (lx_J hX (isJ_S ht hn1)) rfl in_X2 0 (by decide) wf_X6_39 tyX2 tyX2_ok nmX2 rfl rfl rfl rfl 13 rfl dX6_addJunction_10 ?_
  intro M2
  refine g_aload_n 0 rfl rfl 14 rfl dX6_addJunction_13 ?_
  refine g_dup 15 rfl dX6_addJunction_14 rfl ?_
  refine w_get (lx_S hX ht) rfl in_X6 3 (by decide) wf_X6_28 rfl 18 rfl dX6_addJunction_15 ?_
  refine g_iconst 1 19 rfl dX6_addJunction_18 (by decide) ?_
  refine g_iadd 20 rfl dX6_addJunction_19 ?_
  refine w_put (lx_S hX ht) rfl in_X6 3 (by decide) wf_X6_28 tyX6 tyX6_ok nmX6 rfl rfl rfl rfl 23 rfl dX6_addJunction_20 ?_
  intro M3
  refine g_aload_n 0 rfl rfl 24 rfl dX6_addJunction_23 ?_
  refine w_get (lx_S hX ht) rfl in_X6 3 (by decide) wf_X6_28 rfl 27 rfl dX6_addJunction_24 ?_
  refine g_iconst 1 28 rfl dX6_addJunction_27 (by decide) ?_
  refine g_isub 29 rfl dX6_addJunction_28 ?_
  exact g_iret rfl dX6_addJunction_29
def fX6_canTakeCycle_L1 (t : Nat) (p0 : Int32) (M : Mem) (k2 : Unit → Option Int32) (k4 : Int32 → Option Int32) (a3 : Int32) : Option Int32 := if M t 3 ≤ a3 then (some 1) else (grd (inb a3 4) (clp (fX2_greenCount M (t + 2 + 10 * a3.toNatClampNeg) 0) (fun x6 => clp (fX2_greenCount M (t + 2 + 10 * a3.toNatClampNeg) 1) (fun x7 => jn (fun (a8 : Int32) => if a8 = 0 then (if p0 ≤ M (t + 2 + 10 * a3.toNatClampNeg) 1 then (k2 ()) else (clp (fX2_isChangePlanned M (t + 2 + 10 * a3.toNatClampNeg)) (fun x10 => if x10 = 0 then (bnd (a3 + 1) (fun x11 => k4 x11)) else (k2 ())))) else (k2 ())) (fun k9 => if x6 + x7 ≤ 0 then (k9 0) else (k9 1))))))
def fX6_canTakeCycle (M : Mem) (t : Nat) (p0 : Int32) : Option Int32 := jn (fun (a1 : Unit) => some 0) (fun k2 => lp (fX6_canTakeCycle_L1 t p0 M k2) FU 0)
set_option maxRecDepth 100000 in
set_option maxHeartbeats 4000000 in
theorem c_X6_canTakeCycle {Ω : Wd} (l : Launch) (hO : OkW Ω) (hX : LX Ω) {t : Nat} (ht : isS t) (M : Mem) (p0 : Int32) : ∀ r, fX6_canTakeCycle M t p0 = some r → Ct l yX6_canTakeCycle (.code yX6_canTakeCycle cX6_canTakeCycle 5 (some .boolean)) 3 67 Ω [.ref (wA Ω t), .int p0] M ((cpI M) r) := by
  refine ofG [(0, .ref (wA Ω t)), (1, .int p0)] hO (by decide) rfl (Nat.le_of_ble_eq_true rfl) rfl ?_
  intro p e s m args below meth c
  unfold fX6_canTakeCycle
  refine g_iconst 0 1 rfl dX6_canTakeCycle_0 (by decide) ?_
  refine g_istore_nA [(2, .int 0), (0, .ref (wA Ω t)), (1, .int p0)] rfl 2 rfl dX6_canTakeCycle_1 (by decide) rfl ?_
  refine g_join 58 (fun a1 => []) (fun a1 => []) (fun a1 => M) ?_ ?_
  · intro a1
    refine g_iconst 0 59 rfl dX6_canTakeCycle_58 (by decide) ?_
    exact p_zret rfl rfl dX6_canTakeCycle_59
  · intro k2 hk2
    refine g_sub [(0, .ref (wA Ω t)), (1, .int p0), (2, .int 0)] [1, 2, 0] rfl ?_
    refine g_loop 2 (fun a3 => [(0, .ref (wA Ω t)), (1, .int p0), (2, .int a3)]) (fun _ => []) (fun a3 => M) ?_ FU 0
    intro k4 hk4 a3
    unfold fX6_canTakeCycle_L1
    refine g_iload_n 2 rfl rfl 3 rfl dX6_canTakeCycle_2 ?_
    refine g_aload_n 0 rfl rfl 4 rfl dX6_canTakeCycle_3 ?_
    refine w_get (lx_S hX ht) rfl in_X6 3 (by decide) wf_X6_28 rfl 7 rfl dX6_canTakeCycle_4 ?_
    refine g_icmp_ge 66 (by decide) 10 rfl dX6_canTakeCycle_7 ?_ ?_
    · refine g_iconst 1 67 rfl dX6_canTakeCycle_66 (by decide) ?_
      exact p_zret rfl rfl dX6_canTakeCycle_67
    · refine g_aload_n 0 rfl rfl 11 rfl dX6_canTakeCycle_10 ?_
      refine w_getR (lx_S hX ht) rfl in_X6 4 (by decide) wf_X6_20 (t + 1) rfl 14 rfl dX6_canTakeCycle_11 ?_
      refine g_iload_n 2 rfl rfl 15 rfl dX6_canTakeCycle_14 ?_
      refine w_aald (lx_S1 hX ht) 16 rfl dX6_canTakeCycle_15 ?_
      intro hn5
      refine g_astore_nA [(3, .ref (wA Ω (t + 2 + 10 * a3.toNatClampNeg))), (0, .ref (wA Ω t)), (1, .int p0), (2, .int a3)] rfl 17 rfl dX6_canTakeCycle_16 (by decide) rfl ?_
      refine g_aload_n 0 rfl rfl 18 rfl dX6_canTakeCycle_17 ?_
      refine g_iconst 0 19 rfl dX6_canTakeCycle_18 (by decide) ?_
      refine p_cVI (t + 2 + 10 * a3.toNatClampNeg) [.int 0] [] (c_X2_greenCount l hO hX (isJ_S ht hn5) M 0) dX6_canTakeCycle_19 uv_X6_42 rfl yk_X2_greenCount ⟨by decide, by decide⟩ (lx_J hX (isJ_S ht hn5)).1 (lx_J hX (isJ_S ht hn5)).2 rfl (Nat.le_of_ble_eq_true rfl) rfl 22 rfl ?_
      intro x6
      refine g_aload_n 0 rfl rfl 23 rfl dX6_canTakeCycle_22 ?_
      refine g_iconst 1 24 rfl dX6_canTakeCycle_23 (by decide) ?_
      refine p_cVI (t + 2 + 10 * a3.toNatClampNeg) [.int 1] [.int x6] (c_X2_greenCount l hO hX (isJ_S ht hn5) M 1) dX6_canTakeCycle_24 uv_X6_42 rfl yk_X2_greenCount ⟨by decide, by decide⟩ (lx_J hX (isJ_S ht hn5)).1 (lx_J hX (isJ_S ht hn5)).2 rfl (Nat.le_of_ble_eq_true rfl) rfl 27 rfl ?_
      intro x7
      refine g_iadd 28 rfl dX6_canTakeCycle_27 ?_
      refine g_join 36 (fun a8 => [(0, .ref (wA Ω t)), (1, .int p0), (2, .int a3), (3, .ref (wA Ω (t + 2 + 10 * a3.toNatClampNeg)))]) (fun a8 => [.int a8]) (fun a8 => M) ?_ ?_
      · intro a8
        refine g_istoreA [(4, .int a8), (0, .ref (wA Ω t)), (1, .int p0), (2, .int a3), (3, .ref (wA Ω (t + 2 + 10 * a3.toNatClampNeg)))] 38 rfl dX6_canTakeCycle_36 (by decide) rfl ?_
        refine g_iload 0 rfl 40 rfl dX6_canTakeCycle_38 ?_
        refine g_if_ne 58 (by decide) 43 rfl dX6_canTakeCycle_40 ?_ ?_
        · refine g_aload_n 4 rfl rfl 44 rfl dX6_canTakeCycle_43 ?_
          refine w_get (lx_J hX (isJ_S ht hn5)) rfl in_X2 1 (by decide) wf_X6_46 rfl 47 rfl dX6_canTakeCycle_44 ?_
          refine g_iload_n 2 rfl rfl 48 rfl dX6_canTakeCycle_47 ?_
          refine g_icmp_ge 58 (by decide) 51 rfl dX6_canTakeCycle_48 ?_ ?_
          · refine g_sub [] [] rfl ?_
            exact hk2 ()
          · refine g_aload_n 4 rfl rfl 52 rfl dX6_canTakeCycle_51 ?_
            refine p_cVI (t + 2 + 10 * a3.toNatClampNeg) [] [] (c_X2_isChangePlanned l hO hX (isJ_S ht hn5) M) dX6_canTakeCycle_52 uv_X6_49 rfl yk_X2_isChangePlanned ⟨by decide, by decide⟩ (lx_J hX (isJ_S ht hn5)).1 (lx_J hX (isJ_S ht hn5)).2 rfl (Nat.le_of_ble_eq_true rfl) rfl 55 rfl ?_
            intro x10
            refine g_if_eq 60 (by decide) 58 rfl dX6_canTakeCycle_55 ?_ ?_
            · refine g_iinc 3 rfl 1 (by decide) (fun x11 => [(2, .int x11), (4, .int a8), (0, .ref (wA Ω t)), (1, .int p0), (3, .ref (wA Ω (t + 2 + 10 * a3.toNatClampNeg)))]) 63 rfl dX6_canTakeCycle_60 (by decide) (fun _ => rfl) ?_
              intro x11
              refine g_goto 2 (by decide) dX6_canTakeCycle_63 ?_
              refine g_sub [(0, .ref (wA Ω t)), (1, .int p0), (2, .int x11)] [2, 3, 0] rfl ?_
              exact hk4 x11
            · refine g_sub [] [] rfl ?_
              exact hk2 ()
        · refine g_sub [] [] rfl ?_
          exact hk2 ()
      · intro k9 hk9
        refine g_if_le 35 (by decide) 31 rfl dX6_canTakeCycle_28 ?_ ?_
        · refine g_iconst 0 36 rfl dX6_canTakeCycle_35 (by decide) ?_
          refine g_sub [(0, .ref (wA Ω t)), (1, .int p0), (2, .int a3), (3, .ref (wA Ω (t + 2 + 10 * a3.toNatClampNeg)))] [1, 2, 3, 0] rfl ?_
          exact hk9 0
        · refine g_iconst 1 32 rfl dX6_canTakeCycle_31 (by decide) ?_
          refine g_goto 36 (by decide) dX6_canTakeCycle_32 ?_
          refine g_sub [(0, .ref (wA Ω t)), (1, .int p0), (2, .int a3), (3, .ref (wA Ω (t + 2 + 10 * a3.toNatClampNeg)))] [1, 2, 3, 0] rfl ?_
          exact hk9 1
def fX1_push (M : Mem) (t0 : Nat) : Option (Unit × Mem) := grd (inb (M 463 1) 8) (cl (fX6_copyFrom M (127 + 42 * (M 463 1).toNatClampNeg) t0) (fun u2 M3 => jn (fun (a4 : Int32) => bnd (mset M3 463 1 a4) (fun M6 => clp (fJ9_min_7cf53 M6 ((M6 463 0) + 1) 8) (fun x7 => bnd (mset M6 463 0 x7) (fun M8 => some ((), M8))))) (fun k5 => if 8 ≤ (M3 463 1) + 1 then (k5 0) else (k5 ((M3 463 1) + 1)))))
set_option maxRecDepth 100000 in
set_option maxHeartbeats 4000000 in
theorem c_X1_push {Ω : Wd} (l : Launch) (hO : OkW Ω) (hX : LX Ω) {t0 : Nat} (ht0 : isS t0) (M : Mem)  : ∀ r, fX1_push M t0 = some r → Ct l yX1_push (.code yX1_push cX1_push 2 none) 3 69 Ω [.ref (wA Ω 463), .ref (wA Ω t0)] M (cvV r) := by
  refine ofG [(0, .ref (wA Ω 463)), (1, .ref (wA Ω t0))] hO (by decide) rfl (Nat.le_of_ble_eq_true rfl) rfl ?_
  intro p e s m args below meth c
  unfold fX1_push
  refine g_aload_n 0 rfl rfl 1 rfl dX1_push_0 ?_
  refine w_getR (lx_H hX) rfl in_X1 2 (by decide) wf_X1_11 464 rfl 4 rfl dX1_push_1 ?_
  refine g_aload_n 0 rfl rfl 5 rfl dX1_push_4 ?_
  refine w_get (lx_H hX) rfl in_X1 1 (by decide) wf_X1_18 rfl 8 rfl dX1_push_5 ?_
  refine w_aald (lx_H1 hX) 9 rfl dX1_push_8 ?_
  intro hn1
  refine g_aload_n 1 rfl rfl 10 rfl dX1_push_9 ?_
  refine g_cVV (127 + 42 * (M 463 1).toNatClampNeg) [.ref (wA Ω t0)] [] (c_X6_copyFrom l hO hX (isS_H hn1) ht0 M) dX1_push_10 uv_X1_22 rfl yk_X6_copyFrom ⟨by decide, by decide⟩ (lx_S hX (isS_H hn1)).1 (lx_S hX (isS_H hn1)).2 rfl (Nat.le_of_ble_eq_true rfl) rfl 13 rfl ?_
  intro u2 M3
  refine g_aload_n 0 rfl rfl 14 rfl dX1_push_13 ?_
  refine g_aload_n 0 rfl rfl 15 rfl dX1_push_14 ?_
  refine w_get (lx_H hX) rfl in_X1 1 (by decide) wf_X1_18 rfl 18 rfl dX1_push_15 ?_
  refine g_iconst 1 19 rfl dX1_push_18 (by decide) ?_
  refine g_iadd 20 rfl dX1_push_19 ?_
  refine g_bipush 8 22 rfl dX1_push_20 (by decide) ?_
  refine g_join 35 (fun a4 => [(0, .ref (wA Ω 463))]) (fun a4 => [.int a4, .ref (wA Ω 463)]) (fun a4 => M3) ?_ ?_
  · intro a4
    refine w_put (lx_H hX) rfl in_X1 1 (by decide) wf_X1_18 tyX1 tyX1_ok nmX1 rfl rfl rfl rfl 38 rfl dX1_push_35 ?_
    intro M6
    refine g_aload_n 0 rfl rfl 39 rfl dX1_push_38 ?_
    refine g_aload_n 0 rfl rfl 40 rfl dX1_push_39 ?_
    refine w_get (lx_H hX) rfl in_X1 0 (by decide) wf_X1_26 rfl 43 rfl dX1_push_40 ?_
    refine g_iconst 1 44 rfl dX1_push_43 (by decide) ?_
    refine g_iadd 45 rfl dX1_push_44 ?_
    refine g_bipush 8 47 rfl dX1_push_45 (by decide) ?_
    refine p_cTI [.int ((M6 463 0) + 1), .int 8] [.ref (wA Ω 463)] (c_J9_min_7cf53 l hO M6 ((M6 463 0) + 1) 8) dX1_push_47 ut_X1_29 yk_J9_min_7cf53 ⟨by decide, by decide⟩ (Nat.le_of_ble_eq_true rfl) rfl 50 rfl ?_
    intro x7
    refine w_put (lx_H hX) rfl in_X1 0 (by decide) wf_X1_26 tyX1 tyX1_ok nmX1 rfl rfl rfl rfl 53 rfl dX1_push_50 ?_
    intro M8
    exact g_vret rfl dX1_push_53
  · intro k5 hk5
    refine g_icmp_ge 34 (by decide) 25 rfl dX1_push_22 ?_ ?_
    · refine g_iconst 0 35 rfl dX1_push_34 (by decide) ?_
      refine g_sub [(0, .ref (wA Ω 463))] [0] rfl ?_
      exact hk5 0
    · refine g_aload_n 0 rfl rfl 26 rfl dX1_push_25 ?_
      refine w_get (lx_H hX) rfl in_X1 1 (by decide) wf_X1_18 rfl 29 rfl dX1_push_26 ?_
      refine g_iconst 1 30 rfl dX1_push_29 (by decide) ?_
      refine g_iadd 31 rfl dX1_push_30 ?_
      refine g_goto 35 (by decide) dX1_push_31 ?_
      refine g_sub [(0, .ref (wA Ω 463))] [0] rfl ?_
      exact hk5 ((M3 463 1) + 1)
def fX1_popInto (M : Mem) (t0 : Nat) : Option (Unit × Mem) := jn (fun (a1 : Int32) => bnd (mset M 463 1 a1) (fun M3 => bnd (mset M3 463 0 ((M3 463 0) - 1)) (fun M4 => grd (inb (M4 463 1) 8) (cl (fX6_copyFrom M4 t0 (127 + 42 * (M4 463 1).toNatClampNeg)) (fun u6 M7 => some ((), M7)))))) (fun k2 => if M 463 1 ≤ 0 then (k2 7) else (k2 ((M 463 1) - 1)))
set_option maxRecDepth 100000 in
set_option maxHeartbeats 4000000 in
theorem c_X1_popInto {Ω : Wd} (l : Launch) (hO : OkW Ω) (hX : LX Ω) {t0 : Nat} (ht0 : isS t0) (M : Mem)  : ∀ r, fX1_popInto M t0 = some r → Ct l yX1_popInto (.code yX1_popInto cX1_popInto 2 none) 3 69 Ω [.ref (wA Ω 463), .ref (wA Ω t0)] M (cvV r) := by
  refine ofG [(0, .ref (wA Ω 463)), (1, .ref (wA Ω t0))] hO (by decide) rfl (Nat.le_of_ble_eq_true rfl) rfl ?_
  intro p e s m args below meth c
  unfold fX1_popInto
  refine g_aload_n 0 rfl rfl 1 rfl dX1_popInto_0 ?_
  refine g_aload_n 0 rfl rfl 2 rfl dX1_popInto_1 ?_
  refine w_get (lx_H hX) rfl in_X1 1 (by decide) wf_X1_18 rfl 5 rfl dX1_popInto_2 ?_
  refine g_join 19 (fun a1 => [(0, .ref (wA Ω 463)), (1, .ref (wA Ω t0))]) (fun a1 => [.int a1, .ref (wA Ω 463)]) (fun a1 => M) ?_ ?_
  · intro a1
    refine w_put (lx_H hX) rfl in_X1 1 (by decide) wf_X1_18 tyX1 tyX1_ok nmX1 rfl rfl rfl rfl 22 rfl dX1_popInto_19 ?_
    intro M3
    refine g_aload_n 0 rfl rfl 23 rfl dX1_popInto_22 ?_
    refine g_dup 24 rfl dX1_popInto_23 rfl ?_
    refine w_get (lx_H hX) rfl in_X1 0 (by decide) wf_X1_26 rfl 27 rfl dX1_popInto_24 ?_
    refine g_iconst 1 28 rfl dX1_popInto_27 (by decide) ?_
    refine g_isub 29 rfl dX1_popInto_28 ?_
    refine w_put (lx_H hX) rfl in_X1 0 (by decide) wf_X1_26 tyX1 tyX1_ok nmX1 rfl rfl rfl rfl 32 rfl dX1_popInto_29 ?_
    intro M4
    refine g_aload_n 1 rfl rfl 33 rfl dX1_popInto_32 ?_
    refine g_aload_n 0 rfl rfl 34 rfl dX1_popInto_33 ?_
    refine w_getR (lx_H hX) rfl in_X1 2 (by decide) wf_X1_11 464 rfl 37 rfl dX1_popInto_34 ?_
    refine g_aload_n 0 rfl rfl 38 rfl dX1_popInto_37 ?_
    refine w_get (lx_H hX) rfl in_X1 1 (by decide) wf_X1_18 rfl 41 rfl dX1_popInto_38 ?_
    refine w_aald (lx_H1 hX) 42 rfl dX1_popInto_41 ?_
    intro hn5
    refine g_cVV t0 [.ref (wA Ω (127 + 42 * (M4 463 1).toNatClampNeg))] [] (c_X6_copyFrom l hO hX ht0 (isS_H hn5) M4) dX1_popInto_42 uv_X1_22 rfl yk_X6_copyFrom ⟨by decide, by decide⟩ (lx_S hX ht0).1 (lx_S hX ht0).2 rfl (Nat.le_of_ble_eq_true rfl) rfl 45 rfl ?_
    intro u6 M7
    exact g_vret rfl dX1_popInto_45
  · intro k2 hk2
    refine g_if_le 17 (by decide) 8 rfl dX1_popInto_5 ?_ ?_
    · refine g_bipush 7 19 rfl dX1_popInto_17 (by decide) ?_
      exact hk2 7
    · refine g_aload_n 0 rfl rfl 9 rfl dX1_popInto_8 ?_
      refine w_get (lx_H hX) rfl in_X1 1 (by decide) wf_X1_18 rfl 12 rfl dX1_popInto_9 ?_
      refine g_iconst 1 13 rfl dX1_popInto_12 (by decide) ?_
      refine g_isub 14 rfl dX1_popInto_13 ?_
      refine g_goto 19 (by decide) dX1_popInto_14 ?_
      exact hk2 ((M 463 1) - 1)
def fX6_find (M : Mem) (t : Nat) (p0 : Int32) : Option (Option Nat) := clp (fX9_isWithin M p0 0 ((M t 3) - 1)) (fun x1 => if x1 = 0 then (some none) else (grd (inb p0 4) (some (some (t + 2 + 10 * p0.toNatClampNeg)))))
set_option maxRecDepth 100000 in
set_option maxHeartbeats 4000000 in
theorem c_X6_find {Ω : Wd} (l : Launch) (hO : OkW Ω) (hX : LX Ω) {t : Nat} (ht : isS t) (M : Mem) (p0 : Int32) : ∀ r, fX6_find M t p0 = some r → Ct l yX6_find (.code yX6_find cX6_find 2 (some (.object "SignalRoad$Junction"))) 1 22 Ω [.ref (wA Ω t), .int p0] M ((cpN Ω M) r) := by
  refine ofG [(0, .ref (wA Ω t)), (1, .int p0)] hO (by decide) rfl (Nat.le_of_ble_eq_true rfl) rfl ?_
  intro p e s m args below meth c
  unfold fX6_find
  refine g_iload_n 1 rfl rfl 1 rfl dX6_find_0 ?_
  refine g_iconst 0 2 rfl dX6_find_1 (by decide) ?_
  refine g_aload_n 0 rfl rfl 3 rfl dX6_find_2 ?_
  refine w_get (lx_S hX ht) rfl in_X6 3 (by decide) wf_X6_28 rfl 6 rfl dX6_find_3 ?_
  refine g_iconst 1 7 rfl dX6_find_6 (by decide) ?_
  refine g_isub 8 rfl dX6_find_7 ?_
  refine p_cSNI [.int p0, .int 0, .int ((M t 3) - 1)] [] (c_X9_isWithin l hO M p0 0 ((M t 3) - 1)) dX6_find_8 wk_X6_35 ws_X9_isWithin wn_X9 wc_X9_isWithin yk_X9_isWithin ⟨by decide, by decide⟩ (Nat.le_of_ble_eq_true rfl) rfl 11 rfl ?_
  intro x1
  refine g_if_eq 23 (by decide) 14 rfl dX6_find_11 ?_ ?_
  · refine g_null 24 rfl dX6_find_23 ?_
    exact p_aretN (Or.inl ⟨_, rfl⟩) rfl dX6_find_24
  · refine g_aload_n 0 rfl rfl 15 rfl dX6_find_14 ?_
    refine w_getR (lx_S hX ht) rfl in_X6 4 (by decide) wf_X6_20 (t + 1) rfl 18 rfl dX6_find_15 ?_
    refine g_iload_n 1 rfl rfl 19 rfl dX6_find_18 ?_
    refine w_aald (lx_S1 hX ht) 20 rfl dX6_find_19 ?_
    intro hn2
    refine g_goto 24 (by decide) dX6_find_20 ?_
    exact p_aretS (Or.inl ⟨_, rfl⟩) rfl dX6_find_24
def fX6_letPass_L1 (t : Nat) (k4 : (Int32 × Mem) → Option (Int32 × Mem)) (k8 : (Int32 × Int32 × Mem) → Option (Int32 × Mem)) (a7 : Int32 × Int32 × Mem) : Option (Int32 × Mem) := if a7.2.2 t 3 ≤ a7.2.1 then (k4 (a7.1, a7.2.2)) else (grd (inb a7.2.1 4) (cl (fX2_letSecondPass a7.2.2 (t + 2 + 10 * a7.2.1.toNatClampNeg) (a7.2.2 t 2) (a7.2.2 t 0)) (fun x10 M11 => bnd (a7.1 + x10) (fun x12 => bnd (a7.2.1 + 1) (fun x13 => k8 (x12, x13, M11))))))
def fX6_letPass_L2 (t : Nat) (p0 : Int32) (k2 : (Int32 × Int32 × Mem) → Option (Int32 × Mem)) (a1 : Int32 × Int32 × Mem) : Option (Int32 × Mem) := if p0 ≤ a1.2.1 then (some (a1.1, a1.2.2)) else (jn (fun (a3 : Int32 × Mem) => bnd (mset a3.2 t 2 ((a3.2 t 2) + 1)) (fun M5 => bnd (a1.2.1 + 1) (fun x6 => k2 (a3.1, x6, M5)))) (fun k4 => lp (fX6_letPass_L1 t k4) FU (a1.1, 0, a1.2.2)))
def fX6_letPass (M : Mem) (t : Nat) (p0 : Int32) : Option (Int32 × Mem) := lp (fX6_letPass_L2 t p0) FU (0, 0, M)
set_option maxRecDepth 100000 in
set_option maxHeartbeats 4000000 in
theorem c_X6_letPass {Ω : Wd} (l : Launch) (hO : OkW Ω) (hX : LX Ω) {t : Nat} (ht : isS t) (M : Mem) (p0 : Int32) : ∀ r, fX6_letPass M t p0 = some r → Ct l yX6_letPass (.code yX6_letPass cX6_letPass 5 (some .int)) 4 91 Ω [.ref (wA Ω t), .int p0] M (cvI r) := by
  refine ofG [(0, .ref (wA Ω t)), (1, .int p0)] hO (by decide) rfl (Nat.le_of_ble_eq_true rfl) rfl ?_
  intro p e s m args below meth c
  unfold fX6_letPass
  refine g_iconst 0 1 rfl dX6_letPass_0 (by decide) ?_
  refine g_istore_nA [(2, .int 0), (0, .ref (wA Ω t)), (1, .int p0)] rfl 2 rfl dX6_letPass_1 (by decide) rfl ?_
  refine g_iconst 0 3 rfl dX6_letPass_2 (by decide) ?_
  refine g_istore_nA [(3, .int 0), (2, .int 0), (0, .ref (wA Ω t)), (1, .int p0)] rfl 4 rfl dX6_letPass_3 (by decide) rfl ?_
  refine g_sub [(0, .ref (wA Ω t)), (1, .int p0), (2, .int 0), (3, .int 0)] [2, 3, 1, 0] rfl ?_
  refine g_loop 4 (fun a1 => [(0, .ref (wA Ω t)), (1, .int p0), (2, .int a1.1), (3, .int a1.2.1)]) (fun _ => []) (fun a1 => a1.2.2) ?_ FU (0, 0, M)
  intro k2 hk2 a1
  unfold fX6_letPass_L2
  refine g_iload_n 3 rfl rfl 5 rfl dX6_letPass_4 ?_
  refine g_iload_n 1 rfl rfl 6 rfl dX6_letPass_5 ?_
  refine g_icmp_ge 64 (by decide) 9 rfl dX6_letPass_6 ?_ ?_
  · refine g_iload_n 2 rfl rfl 65 rfl dX6_letPass_64 ?_
    exact g_iret rfl dX6_letPass_65
  · refine g_iconst 0 10 rfl dX6_letPass_9 (by decide) ?_
    refine g_istoreA [(4, .int 0), (0, .ref (wA Ω t)), (1, .int p0), (2, .int a1.1), (3, .int a1.2.1)] 12 rfl dX6_letPass_10 (by decide) rfl ?_
    refine g_join 48 (fun a3 => [(0, .ref (wA Ω t)), (1, .int p0), (2, .int a3.1), (3, .int a1.2.1)]) (fun a3 => []) (fun a3 => a3.2) ?_ ?_
    · intro a3
      refine g_aload_n 0 rfl rfl 49 rfl dX6_letPass_48 ?_
      refine g_dup 50 rfl dX6_letPass_49 rfl ?_
      refine w_get (lx_S hX ht) rfl in_X6 2 (by decide) wf_X6_25 rfl 53 rfl dX6_letPass_50 ?_
      refine g_iconst 1 54 rfl dX6_letPass_53 (by decide) ?_
      refine g_iadd 55 rfl dX6_letPass_54 ?_
      refine w_put (lx_S hX ht) rfl in_X6 2 (by decide) wf_X6_25 tyX6 tyX6_ok nmX6 rfl rfl rfl rfl 58 rfl dX6_letPass_55 ?_
      intro M5
      refine g_iinc 3 rfl 1 (by decide) (fun x6 => [(3, .int x6), (0, .ref (wA Ω t)), (1, .int p0), (2, .int a3.1)]) 61 rfl dX6_letPass_58 (by decide) (fun _ => rfl) ?_
      intro x6
      refine g_goto 4 (by decide) dX6_letPass_61 ?_
      refine g_sub [(0, .ref (wA Ω t)), (1, .int p0), (2, .int a3.1), (3, .int x6)] [1, 2, 3, 0] rfl ?_
      exact hk2 (a3.1, x6, M5)
    · intro k4 hk4
      refine g_sub [(0, .ref (wA Ω t)), (1, .int p0), (2, .int a1.1), (3, .int a1.2.1), (4, .int 0)] [1, 2, 3, 4, 0] rfl ?_
      refine g_loop 12 (fun a7 => [(0, .ref (wA Ω t)), (1, .int p0), (2, .int a7.1), (3, .int a1.2.1), (4, .int a7.2.1)]) (fun _ => []) (fun a7 => a7.2.2) ?_ FU (a1.1, 0, a1.2.2)
      intro k8 hk8 a7
      unfold fX6_letPass_L1
      refine g_iload 4 rfl 14 rfl dX6_letPass_12 ?_
      refine g_aload_n 0 rfl rfl 15 rfl dX6_letPass_14 ?_
      refine w_get (lx_S hX ht) rfl in_X6 3 (by decide) wf_X6_28 rfl 18 rfl dX6_letPass_15 ?_
      refine g_icmp_ge 48 (by decide) 21 rfl dX6_letPass_18 ?_ ?_
      · refine g_sub [(0, .ref (wA Ω t)), (1, .int p0), (2, .int a7.1), (3, .int a1.2.1)] [0, 1, 2, 3] rfl ?_
        exact hk4 (a7.1, a7.2.2)
      · refine g_iload_n 2 rfl rfl 22 rfl dX6_letPass_21 ?_
        refine g_aload_n 0 rfl rfl 23 rfl dX6_letPass_22 ?_
        refine w_getR (lx_S hX ht) rfl in_X6 4 (by decide) wf_X6_20 (t + 1) rfl 26 rfl dX6_letPass_23 ?_
        refine g_iload 4 rfl 28 rfl dX6_letPass_26 ?_
        refine w_aald (lx_S1 hX ht) 29 rfl dX6_letPass_28 ?_
        intro hn9
        refine g_aload_n 0 rfl rfl 30 rfl dX6_letPass_29 ?_
        refine w_get (lx_S hX ht) rfl in_X6 2 (by decide) wf_X6_25 rfl 33 rfl dX6_letPass_30 ?_
        refine g_aload_n 0 rfl rfl 34 rfl dX6_letPass_33 ?_
        refine w_get (lx_S hX ht) rfl in_X6 0 (by decide) wf_X6_9 rfl 37 rfl dX6_letPass_34 ?_
        refine g_cVI (t + 2 + 10 * a7.2.1.toNatClampNeg) [.int (a7.2.2 t 2), .int (a7.2.2 t 0)] [.int a7.1] (c_X2_letSecondPass l hO hX (isJ_S ht hn9) a7.2.2 (a7.2.2 t 2) (a7.2.2 t 0)) dX6_letPass_37 uv_X6_53 rfl yk_X2_letSecondPass ⟨by decide, by decide⟩ (lx_J hX (isJ_S ht hn9)).1 (lx_J hX (isJ_S ht hn9)).2 rfl (Nat.le_of_ble_eq_true rfl) rfl 40 rfl ?_
        intro x10 M11
        refine g_iadd 41 rfl dX6_letPass_40 ?_
        refine g_istore_n (fun x12 => [(2, .int x12), (0, .ref (wA Ω t)), (1, .int p0), (3, .int a1.2.1), (4, .int a7.2.1)]) rfl 42 rfl dX6_letPass_41 (by decide) (fun _ => rfl) ?_
        intro x12
        refine g_iinc 4 rfl 1 (by decide) (fun x13 => [(4, .int x13), (2, .int x12), (0, .ref (wA Ω t)), (1, .int p0), (3, .int a1.2.1)]) 45 rfl dX6_letPass_42 (by decide) (fun _ => rfl) ?_
        intro x13
        refine g_goto 12 (by decide) dX6_letPass_45 ?_
        refine g_sub [(0, .ref (wA Ω t)), (1, .int p0), (2, .int x12), (3, .int a1.2.1), (4, .int x13)] [2, 3, 1, 4, 0] rfl ?_
        exact hk8 (x12, x13, M11)
def fX6_sumOf_L1 (t : Nat) (p0 : Int32) (M : Mem) (k2 : (Int32 × Int32) → Option Int32) (a1 : Int32 × Int32) : Option Int32 := if M t 3 ≤ a1.2 then (some a1.1) else (grd (inb a1.2 4) (clp (fX2_amountOf M (t + 2 + 10 * a1.2.toNatClampNeg) p0) (fun x4 => bnd (a1.1 + x4) (fun x5 => bnd (a1.2 + 1) (fun x6 => k2 (x5, x6))))))
def fX6_sumOf (M : Mem) (t : Nat) (p0 : Int32) : Option Int32 := lp (fX6_sumOf_L1 t p0 M) FU (0, 0)
set_option maxRecDepth 100000 in
set_option maxHeartbeats 4000000 in
theorem c_X6_sumOf {Ω : Wd} (l : Launch) (hO : OkW Ω) (hX : LX Ω) {t : Nat} (ht : isS t) (M : Mem) (p0 : Int32) : ∀ r, fX6_sumOf M t p0 = some r → Ct l yX6_sumOf (.code yX6_sumOf cX6_sumOf 4 (some .int)) 5 110 Ω [.ref (wA Ω t), .int p0] M ((cpI M) r) := by
  refine ofG [(0, .ref (wA Ω t)), (1, .int p0)] hO (by decide) rfl (Nat.le_of_ble_eq_true rfl) rfl ?_
  intro p e s m args below meth c
  unfold fX6_sumOf
  refine g_iconst 0 1 rfl dX6_sumOf_0 (by decide) ?_
  refine g_istore_nA [(2, .int 0), (0, .ref (wA Ω t)), (1, .int p0)] rfl 2 rfl dX6_sumOf_1 (by decide) rfl ?_
  refine g_iconst 0 3 rfl dX6_sumOf_2 (by decide) ?_
  refine g_istore_nA [(3, .int 0), (2, .int 0), (0, .ref (wA Ω t)), (1, .int p0)] rfl 4 rfl dX6_sumOf_3 (by decide) rfl ?_
  refine g_sub [(0, .ref (wA Ω t)), (1, .int p0), (2, .int 0), (3, .int 0)] [2, 3, 1, 0] rfl ?_
  refine g_loop 4 (fun a1 => [(0, .ref (wA Ω t)), (1, .int p0), (2, .int a1.1), (3, .int a1.2)]) (fun _ => []) (fun a1 => M) ?_ FU (0, 0)
  intro k2 hk2 a1
  unfold fX6_sumOf_L1
  refine g_iload_n 3 rfl rfl 5 rfl dX6_sumOf_4 ?_
  refine g_aload_n 0 rfl rfl 6 rfl dX6_sumOf_5 ?_
  refine w_get (lx_S hX ht) rfl in_X6 3 (by decide) wf_X6_28 rfl 9 rfl dX6_sumOf_6 ?_
  refine g_icmp_ge 31 (by decide) 12 rfl dX6_sumOf_9 ?_ ?_
  · refine g_iload_n 2 rfl rfl 32 rfl dX6_sumOf_31 ?_
    exact p_iret rfl dX6_sumOf_32
  · refine g_iload_n 2 rfl rfl 13 rfl dX6_sumOf_12 ?_
    refine g_aload_n 0 rfl rfl 14 rfl dX6_sumOf_13 ?_
    refine w_getR (lx_S hX ht) rfl in_X6 4 (by decide) wf_X6_20 (t + 1) rfl 17 rfl dX6_sumOf_14 ?_
    refine g_iload_n 3 rfl rfl 18 rfl dX6_sumOf_17 ?_
    refine w_aald (lx_S1 hX ht) 19 rfl dX6_sumOf_18 ?_
    intro hn3
    refine g_iload_n 1 rfl rfl 20 rfl dX6_sumOf_19 ?_
    refine p_cVI (t + 2 + 10 * a1.2.toNatClampNeg) [.int p0] [.int a1.1] (c_X2_amountOf l hO hX (isJ_S ht hn3) M p0) dX6_sumOf_20 uv_X6_57 rfl yk_X2_amountOf ⟨by decide, by decide⟩ (lx_J hX (isJ_S ht hn3)).1 (lx_J hX (isJ_S ht hn3)).2 rfl (Nat.le_of_ble_eq_true rfl) rfl 23 rfl ?_
    intro x4
    refine g_iadd 24 rfl dX6_sumOf_23 ?_
    refine g_istore_n (fun x5 => [(2, .int x5), (0, .ref (wA Ω t)), (1, .int p0), (3, .int a1.2)]) rfl 25 rfl dX6_sumOf_24 (by decide) (fun _ => rfl) ?_
    intro x5
    refine g_iinc 3 rfl 1 (by decide) (fun x6 => [(3, .int x6), (2, .int x5), (0, .ref (wA Ω t)), (1, .int p0)]) 28 rfl dX6_sumOf_25 (by decide) (fun _ => rfl) ?_
    intro x6
    refine g_goto 4 (by decide) dX6_sumOf_28 ?_
    refine g_sub [(0, .ref (wA Ω t)), (1, .int p0), (2, .int x5), (3, .int x6)] [2, 3, 1, 0] rfl ?_
    exact hk2 (x5, x6)
