def fX10_thrown (M : Mem)  : Option Int32 := some (M 0 0)
set_option maxRecDepth 100000 in
set_option maxHeartbeats 4000000 in
theorem c_X10_thrown {Ω : Wd} (l : Launch) (hO : OkW Ω) (hX : LM Ω)  (M : Mem)  : ∀ r, fX10_thrown M  = some r → Ct l yX10_thrown (.code yX10_thrown cX10_thrown 1 (some .int)) 0 0 Ω [.ref (wA Ω 0)] M ((cpI M) r) := by
  refine ofG [(0, .ref (wA Ω 0))] hO (by decide) rfl (Nat.le_of_ble_eq_true rfl) rfl ?_
  intro p e s m args below meth c
  unfold fX10_thrown
  refine g_aload_n 0 rfl rfl 1 rfl dX10_thrown_0 ?_
  refine w_get (lm_0 hX) rfl in_X10 0 (by decide) wf_X10_47 rfl 4 rfl dX10_thrown_1 ?_
  exact p_iret rfl dX10_thrown_4
def fX10_raises (M : Mem) (p0 : Int32) : Option (Int32 × Mem) := bnd (mset M 0 0 p0) (fun M1 => some (0, M1))
set_option maxRecDepth 100000 in
set_option maxHeartbeats 4000000 in
theorem c_X10_raises {Ω : Wd} (l : Launch) (hO : OkW Ω) (hX : LM Ω)  (M : Mem) (p0 : Int32) : ∀ r, fX10_raises M p0 = some r → Ct l yX10_raises (.code yX10_raises cX10_raises 2 (some .int)) 0 0 Ω [.ref (wA Ω 0), .int p0] M (cvI r) := by
  refine ofG [(0, .ref (wA Ω 0)), (1, .int p0)] hO (by decide) rfl (Nat.le_of_ble_eq_true rfl) rfl ?_
  intro p e s m args below meth c
  unfold fX10_raises
  refine g_aload_n 0 rfl rfl 1 rfl dX10_raises_0 ?_
  refine g_iload_n 1 rfl rfl 2 rfl dX10_raises_1 ?_
  refine w_put (lm_0 hX) rfl in_X10 0 (by decide) wf_X10_47 tyX10 tyX10_ok nmX10 rfl rfl rfl rfl 5 rfl dX10_raises_2 ?_
  intro M1
  refine g_iconst 0 6 rfl dX10_raises_5 (by decide) ?_
  exact g_iret rfl dX10_raises_6
def fX10_refuses (M : Mem) (p0 : Int32) (p1 : Int32) : Option (Int32 × Mem) := bnd (mset M 0 11 p0) (fun M1 => cl (fX10_raises M1 p1) (fun x2 M3 => some (x2, M3)))
set_option maxRecDepth 100000 in
set_option maxHeartbeats 4000000 in
theorem c_X10_refuses {Ω : Wd} (l : Launch) (hO : OkW Ω) (hX : LM Ω)  (M : Mem) (p0 : Int32) (p1 : Int32) : ∀ r, fX10_refuses M p0 p1 = some r → Ct l yX10_refuses (.code yX10_refuses cX10_refuses 3 (some .int)) 1 21 Ω [.ref (wA Ω 0), .int p0, .int p1] M (cvI r) := by
  refine ofG [(0, .ref (wA Ω 0)), (1, .int p0), (2, .int p1)] hO (by decide) rfl (Nat.le_of_ble_eq_true rfl) rfl ?_
  intro p e s m args below meth c
  unfold fX10_refuses
  refine g_aload_n 0 rfl rfl 1 rfl dX10_refuses_0 ?_
  refine g_iload_n 1 rfl rfl 2 rfl dX10_refuses_1 ?_
  refine w_put (lm_0 hX) rfl in_X10 11 (by decide) wf_X10_50 tyX10 tyX10_ok nmX10 rfl rfl rfl rfl 5 rfl dX10_refuses_2 ?_
  intro M1
  refine g_aload_n 0 rfl rfl 6 rfl dX10_refuses_5 ?_
  refine g_iload_n 2 rfl rfl 7 rfl dX10_refuses_6 ?_
  refine g_cVI 0 [.int p1] [] (c_X10_raises l hO hX M1 p1) dX10_refuses_7 uv_X10_53 rfl yk_X10_raises ⟨by decide, by decide⟩ (lm_0 hX).1 (lm_0 hX).2 rfl (Nat.le_of_ble_eq_true rfl) rfl 10 rfl ?_
  intro x2 M3
  exact g_iret rfl dX10_refuses_10
def fX10_in (M : Mem) (p0 : Int32) (p1 : Int32) (p2 : Int32) : Option Int32 := jn (fun (a1 : Int32) => grd (isb a1) (some a1)) (fun k2 => jn (fun (a3 : Unit) => k2 0) (fun k4 => if p0 < p1 then (k4 ()) else (if p2 < p0 then (k4 ()) else (k2 1))))
set_option maxRecDepth 100000 in
set_option maxHeartbeats 4000000 in
theorem c_X10_in {Ω : Wd} (l : Launch) (hO : OkW Ω)  (M : Mem) (p0 : Int32) (p1 : Int32) (p2 : Int32) : ∀ r, fX10_in M p0 p1 p2 = some r → Ct l yX10_in (.code yX10_in cX10_in 3 (some .boolean)) 0 0 Ω [.int p0, .int p1, .int p2] M ((cpI M) r) := by
  refine ofG [(0, .int p0), (1, .int p1), (2, .int p2)] hO (by decide) rfl (Nat.le_of_ble_eq_true rfl) rfl ?_
  intro p e s m args below meth c
  unfold fX10_in
  refine g_iload_n 0 rfl rfl 1 rfl dX10_in_0 ?_
  refine g_iload_n 1 rfl rfl 2 rfl dX10_in_1 ?_
  refine g_join 15 (fun a1 => []) (fun a1 => [.int a1]) (fun a1 => M) ?_ ?_
  · intro a1
    exact p_bret rfl dX10_in_15
  · intro k2 hk2
    refine g_join 14 (fun a3 => []) (fun a3 => []) (fun a3 => M) ?_ ?_
    · intro a3
      refine g_iconst 0 15 rfl dX10_in_14 (by decide) ?_
      exact hk2 0
    · intro k4 hk4
      refine g_icmp_lt 14 (by decide) 5 rfl dX10_in_2 ?_ ?_
      · refine g_sub [] [] rfl ?_
        exact hk4 ()
      · refine g_iload_n 0 rfl rfl 6 rfl dX10_in_5 ?_
        refine g_iload_n 2 rfl rfl 7 rfl dX10_in_6 ?_
        refine g_icmp_gt 14 (by decide) 10 rfl dX10_in_7 ?_ ?_
        · refine g_sub [] [] rfl ?_
          exact hk4 ()
        · refine g_iconst 1 11 rfl dX10_in_10 (by decide) ?_
          refine g_goto 15 (by decide) dX10_in_11 ?_
          refine g_sub [] [] rfl ?_
          exact hk2 1
def fX10_tries_L1 (k3 : (Int32 × Mem) → Option (Unit × Mem)) (a2 : Int32 × Mem) : Option (Unit × Mem) := if 490 ≤ a2.1 then (some ((), a2.2)) else (grd (inb a2.1 490) (grd (inb a2.1 490) (bnd (mset a2.2 4 a2.1.toNatClampNeg (a2.2 1 a2.1.toNatClampNeg)) (fun M4 => bnd (a2.1 + 1) (fun x5 => k3 (x5, M4))))))
def fX10_tries (M : Mem)  : Option (Unit × Mem) := bnd (mset M 0 0 0) (fun M1 => lp (fX10_tries_L1) FU (0, M1))
set_option maxRecDepth 100000 in
set_option maxHeartbeats 4000000 in
theorem c_X10_tries {Ω : Wd} (l : Launch) (hO : OkW Ω) (hX : LM Ω)  (M : Mem)  : ∀ r, fX10_tries M  = some r → Ct l yX10_tries (.code yX10_tries cX10_tries 2 none) 0 0 Ω [.ref (wA Ω 0)] M (cvV r) := by
  refine ofG [(0, .ref (wA Ω 0))] hO (by decide) rfl (Nat.le_of_ble_eq_true rfl) rfl ?_
  intro p e s m args below meth c
  unfold fX10_tries
  refine g_aload_n 0 rfl rfl 1 rfl dX10_tries_0 ?_
  refine g_iconst 0 2 rfl dX10_tries_1 (by decide) ?_
  refine w_put (lm_0 hX) rfl in_X10 0 (by decide) wf_X10_47 tyX10 tyX10_ok nmX10 rfl rfl rfl rfl 5 rfl dX10_tries_2 ?_
  intro M1
  refine g_iconst 0 6 rfl dX10_tries_5 (by decide) ?_
  refine g_istore_nA [(1, .int 0), (0, .ref (wA Ω 0))] rfl 7 rfl dX10_tries_6 (by decide) rfl ?_
  refine g_sub [(0, .ref (wA Ω 0)), (1, .int 0)] [1, 0] rfl ?_
  refine g_loop 7 (fun a2 => [(0, .ref (wA Ω 0)), (1, .int a2.1)]) (fun _ => []) (fun a2 => a2.2) ?_ FU (0, M1)
  intro k3 hk3 a2
  unfold fX10_tries_L1
  refine g_iload_n 1 rfl rfl 8 rfl dX10_tries_7 ?_
  refine g_sipush 490 11 rfl dX10_tries_8 (by decide) ?_
  refine g_icmp_ge 32 (by decide) 14 rfl dX10_tries_11 ?_ ?_
  · exact g_vret rfl dX10_tries_32
  · refine g_aload_n 0 rfl rfl 15 rfl dX10_tries_14 ?_
    refine w_getR (lm_0 hX) rfl in_X10 6 (by decide) wf_X10_19 4 rfl 18 rfl dX10_tries_15 ?_
    refine g_iload_n 1 rfl rfl 19 rfl dX10_tries_18 ?_
    refine g_aload_n 0 rfl rfl 20 rfl dX10_tries_19 ?_
    refine w_getR (lm_0 hX) rfl in_X10 1 (by decide) wf_X10_9 1 rfl 23 rfl dX10_tries_20 ?_
    refine g_iload_n 1 rfl rfl 24 rfl dX10_tries_23 ?_
    refine w_iald (lm_1 hX) 25 rfl dX10_tries_24 ?_
    refine w_iast (lm_4 hX) 26 rfl dX10_tries_25 ?_
    intro M4
    refine g_iinc 1 rfl 1 (by decide) (fun x5 => [(1, .int x5), (0, .ref (wA Ω 0))]) 29 rfl dX10_tries_26 (by decide) (fun _ => rfl) ?_
    intro x5
    refine g_goto 7 (by decide) dX10_tries_29 ?_
    refine g_sub [(0, .ref (wA Ω 0)), (1, .int x5)] [1, 0] rfl ?_
    exact hk3 (x5, M4)
def fX10_keeps_L1 (k4 : Mem → Option (Unit × Mem)) (k7 : (Int32 × Mem) → Option (Unit × Mem)) (a6 : Int32 × Mem) : Option (Unit × Mem) := if 490 ≤ a6.1 then (k4 a6.2) else (grd (inb a6.1 490) (grd (inb ((490 * (a6.2 0 3)) + a6.1) 3920) (bnd (mset a6.2 2 ((490 * (a6.2 0 3)) + a6.1).toNatClampNeg (a6.2 4 a6.1.toNatClampNeg)) (fun M8 => bnd (a6.1 + 1) (fun x9 => k7 (x9, M8))))))
def fX10_keeps_L2 (k11 : Mem → Option (Unit × Mem)) (k14 : (Int32 × Mem) → Option (Unit × Mem)) (a13 : Int32 × Mem) : Option (Unit × Mem) := if 3430 ≤ a13.1 then (k11 a13.2) else (grd (inb (490 + a13.1) 3920) (grd (inb a13.1 3920) (bnd (mset a13.2 2 a13.1.toNatClampNeg (a13.2 2 (490 + a13.1).toNatClampNeg)) (fun M15 => bnd (a13.1 + 1) (fun x16 => k14 (x16, M15))))))
def fX10_keeps (M : Mem)  : Option (Unit × Mem) := jn (fun (a1 : Mem) => jn (fun (a3 : Mem) => bnd (mset a3 0 3 ((a3 0 3) + 1)) (fun M5 => some ((), M5))) (fun k4 => lp (fX10_keeps_L1 k4) FU (0, a1))) (fun k2 => if M 0 3 = 8 then (jn (fun (a10 : Mem) => bnd (mset a10 0 3 ((a10 0 3) - 1)) (fun M12 => k2 M12)) (fun k11 => lp (fX10_keeps_L2 k11) FU (0, M))) else (k2 M))
set_option maxRecDepth 100000 in
set_option maxHeartbeats 4000000 in
theorem c_X10_keeps {Ω : Wd} (l : Launch) (hO : OkW Ω) (hX : LM Ω)  (M : Mem)  : ∀ r, fX10_keeps M  = some r → Ct l yX10_keeps (.code yX10_keeps cX10_keeps 2 none) 0 0 Ω [.ref (wA Ω 0)] M (cvV r) := by
  refine ofG [(0, .ref (wA Ω 0))] hO (by decide) rfl (Nat.le_of_ble_eq_true rfl) rfl ?_
  intro p e s m args below meth c
  unfold fX10_keeps
  refine g_aload_n 0 rfl rfl 1 rfl dX10_keeps_0 ?_
  refine w_get (lm_0 hX) rfl in_X10 3 (by decide) wf_X10_57 rfl 4 rfl dX10_keeps_1 ?_
  refine g_bipush 8 6 rfl dX10_keeps_4 (by decide) ?_
  refine g_join 50 (fun a1 => [(0, .ref (wA Ω 0))]) (fun a1 => []) (fun a1 => a1) ?_ ?_
  · intro a1
    refine g_iconst 0 51 rfl dX10_keeps_50 (by decide) ?_
    refine g_istore_nA [(1, .int 0), (0, .ref (wA Ω 0))] rfl 52 rfl dX10_keeps_51 (by decide) rfl ?_
    refine g_join 86 (fun a3 => [(0, .ref (wA Ω 0))]) (fun a3 => []) (fun a3 => a3) ?_ ?_
    · intro a3
      refine g_aload_n 0 rfl rfl 87 rfl dX10_keeps_86 ?_
      refine g_dup 88 rfl dX10_keeps_87 rfl ?_
      refine w_get (lm_0 hX) rfl in_X10 3 (by decide) wf_X10_57 rfl 91 rfl dX10_keeps_88 ?_
      refine g_iconst 1 92 rfl dX10_keeps_91 (by decide) ?_
      refine g_iadd 93 rfl dX10_keeps_92 ?_
      refine w_put (lm_0 hX) rfl in_X10 3 (by decide) wf_X10_57 tyX10 tyX10_ok nmX10 rfl rfl rfl rfl 96 rfl dX10_keeps_93 ?_
      intro M5
      exact g_vret rfl dX10_keeps_96
    · intro k4 hk4
      refine g_sub [(0, .ref (wA Ω 0)), (1, .int 0)] [1, 0] rfl ?_
      refine g_loop 52 (fun a6 => [(0, .ref (wA Ω 0)), (1, .int a6.1)]) (fun _ => []) (fun a6 => a6.2) ?_ FU (0, a1)
      intro k7 hk7 a6
      unfold fX10_keeps_L1
      refine g_iload_n 1 rfl rfl 53 rfl dX10_keeps_52 ?_
      refine g_sipush 490 56 rfl dX10_keeps_53 (by decide) ?_
      refine g_icmp_ge 86 (by decide) 59 rfl dX10_keeps_56 ?_ ?_
      · refine g_sub [(0, .ref (wA Ω 0))] [0] rfl ?_
        exact hk4 a6.2
      · refine g_aload_n 0 rfl rfl 60 rfl dX10_keeps_59 ?_
        refine w_getR (lm_0 hX) rfl in_X10 2 (by decide) wf_X10_13 2 rfl 63 rfl dX10_keeps_60 ?_
        refine g_sipush 490 66 rfl dX10_keeps_63 (by decide) ?_
        refine g_aload_n 0 rfl rfl 67 rfl dX10_keeps_66 ?_
        refine w_get (lm_0 hX) rfl in_X10 3 (by decide) wf_X10_57 rfl 70 rfl dX10_keeps_67 ?_
        refine g_imul 71 rfl dX10_keeps_70 ?_
        refine g_iload_n 1 rfl rfl 72 rfl dX10_keeps_71 ?_
        refine g_iadd 73 rfl dX10_keeps_72 ?_
        refine g_aload_n 0 rfl rfl 74 rfl dX10_keeps_73 ?_
        refine w_getR (lm_0 hX) rfl in_X10 6 (by decide) wf_X10_19 4 rfl 77 rfl dX10_keeps_74 ?_
        refine g_iload_n 1 rfl rfl 78 rfl dX10_keeps_77 ?_
        refine w_iald (lm_4 hX) 79 rfl dX10_keeps_78 ?_
        refine w_iast (lm_2 hX) 80 rfl dX10_keeps_79 ?_
        intro M8
        refine g_iinc 1 rfl 1 (by decide) (fun x9 => [(1, .int x9), (0, .ref (wA Ω 0))]) 83 rfl dX10_keeps_80 (by decide) (fun _ => rfl) ?_
        intro x9
        refine g_goto 52 (by decide) dX10_keeps_83 ?_
        refine g_sub [(0, .ref (wA Ω 0)), (1, .int x9)] [1, 0] rfl ?_
        exact hk7 (x9, M8)
  · intro k2 hk2
    refine g_icmp_ne 50 (by decide) 9 rfl dX10_keeps_6 ?_ ?_
    · refine g_iconst 0 10 rfl dX10_keeps_9 (by decide) ?_
      refine g_istore_nA [(1, .int 0), (0, .ref (wA Ω 0))] rfl 11 rfl dX10_keeps_10 (by decide) rfl ?_
      refine g_join 40 (fun a10 => [(0, .ref (wA Ω 0))]) (fun a10 => []) (fun a10 => a10) ?_ ?_
      · intro a10
        refine g_aload_n 0 rfl rfl 41 rfl dX10_keeps_40 ?_
        refine g_dup 42 rfl dX10_keeps_41 rfl ?_
        refine w_get (lm_0 hX) rfl in_X10 3 (by decide) wf_X10_57 rfl 45 rfl dX10_keeps_42 ?_
        refine g_iconst 1 46 rfl dX10_keeps_45 (by decide) ?_
        refine g_isub 47 rfl dX10_keeps_46 ?_
        refine w_put (lm_0 hX) rfl in_X10 3 (by decide) wf_X10_57 tyX10 tyX10_ok nmX10 rfl rfl rfl rfl 50 rfl dX10_keeps_47 ?_
        intro M12
        exact hk2 M12
      · intro k11 hk11
        refine g_sub [(0, .ref (wA Ω 0)), (1, .int 0)] [1, 0] rfl ?_
        refine g_loop 11 (fun a13 => [(0, .ref (wA Ω 0)), (1, .int a13.1)]) (fun _ => []) (fun a13 => a13.2) ?_ FU (0, M)
        intro k14 hk14 a13
        unfold fX10_keeps_L2
        refine g_iload_n 1 rfl rfl 12 rfl dX10_keeps_11 ?_
        refine g_sipush 3430 15 rfl dX10_keeps_12 (by decide) ?_
        refine g_icmp_ge 40 (by decide) 18 rfl dX10_keeps_15 ?_ ?_
        · refine g_sub [(0, .ref (wA Ω 0))] [0] rfl ?_
          exact hk11 a13.2
        · refine g_aload_n 0 rfl rfl 19 rfl dX10_keeps_18 ?_
          refine w_getR (lm_0 hX) rfl in_X10 2 (by decide) wf_X10_13 2 rfl 22 rfl dX10_keeps_19 ?_
          refine g_iload_n 1 rfl rfl 23 rfl dX10_keeps_22 ?_
          refine g_aload_n 0 rfl rfl 24 rfl dX10_keeps_23 ?_
          refine w_getR (lm_0 hX) rfl in_X10 2 (by decide) wf_X10_13 2 rfl 27 rfl dX10_keeps_24 ?_
          refine g_sipush 490 30 rfl dX10_keeps_27 (by decide) ?_
          refine g_iload_n 1 rfl rfl 31 rfl dX10_keeps_30 ?_
          refine g_iadd 32 rfl dX10_keeps_31 ?_
          refine w_iald (lm_2 hX) 33 rfl dX10_keeps_32 ?_
          refine w_iast (lm_2 hX) 34 rfl dX10_keeps_33 ?_
          intro M15
          refine g_iinc 1 rfl 1 (by decide) (fun x16 => [(1, .int x16), (0, .ref (wA Ω 0))]) 37 rfl dX10_keeps_34 (by decide) (fun _ => rfl) ?_
          intro x16
          refine g_goto 11 (by decide) dX10_keeps_37 ?_
          refine g_sub [(0, .ref (wA Ω 0)), (1, .int x16)] [1, 0] rfl ?_
          exact hk14 (x16, M15)
    · exact hk2 M
def fX10_changes_L1 (k2 : (Int32 × Mem) → Option (Unit × Mem)) (a1 : Int32 × Mem) : Option (Unit × Mem) := if 490 ≤ a1.1 then (cl (fX10_keeps a1.2) (fun u3 M4 => some ((), M4))) else (grd (inb a1.1 490) (grd (inb a1.1 490) (bnd (mset a1.2 4 a1.1.toNatClampNeg (a1.2 1 a1.1.toNatClampNeg)) (fun M5 => bnd (a1.1 + 1) (fun x6 => k2 (x6, M5))))))
def fX10_changes (M : Mem)  : Option (Unit × Mem) := lp (fX10_changes_L1) FU (0, M)
set_option maxRecDepth 100000 in
set_option maxHeartbeats 4000000 in
theorem c_X10_changes {Ω : Wd} (l : Launch) (hO : OkW Ω) (hX : LM Ω)  (M : Mem)  : ∀ r, fX10_changes M  = some r → Ct l yX10_changes (.code yX10_changes cX10_changes 2 none) 1 21 Ω [.ref (wA Ω 0)] M (cvV r) := by
  refine ofG [(0, .ref (wA Ω 0))] hO (by decide) rfl (Nat.le_of_ble_eq_true rfl) rfl ?_
  intro p e s m args below meth c
  unfold fX10_changes
  refine g_iconst 0 1 rfl dX10_changes_0 (by decide) ?_
  refine g_istore_nA [(1, .int 0), (0, .ref (wA Ω 0))] rfl 2 rfl dX10_changes_1 (by decide) rfl ?_
  refine g_sub [(0, .ref (wA Ω 0)), (1, .int 0)] [1, 0] rfl ?_
  refine g_loop 2 (fun a1 => [(0, .ref (wA Ω 0)), (1, .int a1.1)]) (fun _ => []) (fun a1 => a1.2) ?_ FU (0, M)
  intro k2 hk2 a1
  unfold fX10_changes_L1
  refine g_iload_n 1 rfl rfl 3 rfl dX10_changes_2 ?_
  refine g_sipush 490 6 rfl dX10_changes_3 (by decide) ?_
  refine g_icmp_ge 27 (by decide) 9 rfl dX10_changes_6 ?_ ?_
  · refine g_aload_n 0 rfl rfl 28 rfl dX10_changes_27 ?_
    refine g_cVV 0 [] [] (c_X10_keeps l hO hX a1.2) dX10_changes_28 uv_X10_60 rfl yk_X10_keeps ⟨by decide, by decide⟩ (lm_0 hX).1 (lm_0 hX).2 rfl (Nat.le_of_ble_eq_true rfl) rfl 31 rfl ?_
    intro u3 M4
    exact g_vret rfl dX10_changes_31
  · refine g_aload_n 0 rfl rfl 10 rfl dX10_changes_9 ?_
    refine w_getR (lm_0 hX) rfl in_X10 6 (by decide) wf_X10_19 4 rfl 13 rfl dX10_changes_10 ?_
    refine g_iload_n 1 rfl rfl 14 rfl dX10_changes_13 ?_
    refine g_aload_n 0 rfl rfl 15 rfl dX10_changes_14 ?_
    refine w_getR (lm_0 hX) rfl in_X10 1 (by decide) wf_X10_9 1 rfl 18 rfl dX10_changes_15 ?_
    refine g_iload_n 1 rfl rfl 19 rfl dX10_changes_18 ?_
    refine w_iald (lm_1 hX) 20 rfl dX10_changes_19 ?_
    refine w_iast (lm_4 hX) 21 rfl dX10_changes_20 ?_
    intro M5
    refine g_iinc 1 rfl 1 (by decide) (fun x6 => [(1, .int x6), (0, .ref (wA Ω 0))]) 24 rfl dX10_changes_21 (by decide) (fun _ => rfl) ?_
    intro x6
    refine g_goto 2 (by decide) dX10_changes_24 ?_
    refine g_sub [(0, .ref (wA Ω 0)), (1, .int x6)] [1, 0] rfl ?_
    exact hk2 (x6, M5)
def fX10_at (M : Mem) (p0 : Int32) : Option Int32 := some (6 + (121 * p0))
set_option maxRecDepth 100000 in
set_option maxHeartbeats 4000000 in
theorem c_X10_at {Ω : Wd} (l : Launch) (hO : OkW Ω)  (M : Mem) (p0 : Int32) : ∀ r, fX10_at M p0 = some r → Ct l yX10_at (.code yX10_at cX10_at 1 (some .int)) 0 0 Ω [.int p0] M ((cpI M) r) := by
  refine ofG [(0, .int p0)] hO (by decide) rfl (Nat.le_of_ble_eq_true rfl) rfl ?_
  intro p e s m args below meth c
  unfold fX10_at
  refine g_bipush 6 2 rfl dX10_at_0 (by decide) ?_
  refine g_bipush 121 4 rfl dX10_at_2 (by decide) ?_
  refine g_iload_n 0 rfl rfl 5 rfl dX10_at_4 ?_
  refine g_imul 6 rfl dX10_at_5 ?_
  refine g_iadd 7 rfl dX10_at_6 ?_
  exact p_iret rfl dX10_at_7
def fX10_groupAt (M : Mem) (p0 : Int32) (p1 : Int32) : Option Int32 := some (((6 + (121 * p0)) + 7) + (13 * p1))
set_option maxRecDepth 100000 in
set_option maxHeartbeats 4000000 in
theorem c_X10_groupAt {Ω : Wd} (l : Launch) (hO : OkW Ω)  (M : Mem) (p0 : Int32) (p1 : Int32) : ∀ r, fX10_groupAt M p0 p1 = some r → Ct l yX10_groupAt (.code yX10_groupAt cX10_groupAt 2 (some .int)) 0 0 Ω [.int p0, .int p1] M ((cpI M) r) := by
  refine ofG [(0, .int p0), (1, .int p1)] hO (by decide) rfl (Nat.le_of_ble_eq_true rfl) rfl ?_
  intro p e s m args below meth c
  unfold fX10_groupAt
  refine g_bipush 6 2 rfl dX10_groupAt_0 (by decide) ?_
  refine g_bipush 121 4 rfl dX10_groupAt_2 (by decide) ?_
  refine g_iload_n 0 rfl rfl 5 rfl dX10_groupAt_4 ?_
  refine g_imul 6 rfl dX10_groupAt_5 ?_
  refine g_iadd 7 rfl dX10_groupAt_6 ?_
  refine g_bipush 7 9 rfl dX10_groupAt_7 (by decide) ?_
  refine g_iadd 10 rfl dX10_groupAt_9 ?_
  refine g_bipush 13 12 rfl dX10_groupAt_10 (by decide) ?_
  refine g_iload_n 1 rfl rfl 13 rfl dX10_groupAt_12 ?_
  refine g_imul 14 rfl dX10_groupAt_13 ?_
  refine g_iadd 15 rfl dX10_groupAt_14 ?_
  exact p_iret rfl dX10_groupAt_15
def fX10_of (M : Mem) (p0 : Int32) (p1 : Int32) : Option Int32 := clp (fX10_at M p0) (fun x1 => grd (inb (x1 + p1) 490) (some (M 1 (x1 + p1).toNatClampNeg)))
set_option maxRecDepth 100000 in
set_option maxHeartbeats 4000000 in
theorem c_X10_of {Ω : Wd} (l : Launch) (hO : OkW Ω) (hX : LM Ω)  (M : Mem) (p0 : Int32) (p1 : Int32) : ∀ r, fX10_of M p0 p1 = some r → Ct l yX10_of (.code yX10_of cX10_of 3 (some .int)) 1 20 Ω [.ref (wA Ω 0), .int p0, .int p1] M ((cpI M) r) := by
  refine ofG [(0, .ref (wA Ω 0)), (1, .int p0), (2, .int p1)] hO (by decide) rfl (Nat.le_of_ble_eq_true rfl) rfl ?_
  intro p e s m args below meth c
  unfold fX10_of
  refine g_aload_n 0 rfl rfl 1 rfl dX10_of_0 ?_
  refine w_getR (lm_0 hX) rfl in_X10 1 (by decide) wf_X10_9 1 rfl 4 rfl dX10_of_1 ?_
  refine g_iload_n 1 rfl rfl 5 rfl dX10_of_4 ?_
  refine p_cSI [.int p0] [.ref (wA Ω 1)] (c_X10_at l hO M p0) dX10_of_5 us_X10_63 rfl yk_X10_at ⟨by decide, by decide⟩ (Nat.le_of_ble_eq_true rfl) rfl 8 rfl ?_
  intro x1
  refine g_iload_n 2 rfl rfl 9 rfl dX10_of_8 ?_
  refine g_iadd 10 rfl dX10_of_9 ?_
  refine w_iald (lm_1 hX) 11 rfl dX10_of_10 ?_
  exact p_iret rfl dX10_of_11
def fX10_groupOf (M : Mem) (p0 : Int32) (p1 : Int32) (p2 : Int32) : Option Int32 := clp (fX10_groupAt M p0 p1) (fun x1 => grd (inb (x1 + p2) 490) (some (M 1 (x1 + p2).toNatClampNeg)))
set_option maxRecDepth 100000 in
set_option maxHeartbeats 4000000 in
theorem c_X10_groupOf {Ω : Wd} (l : Launch) (hO : OkW Ω) (hX : LM Ω)  (M : Mem) (p0 : Int32) (p1 : Int32) (p2 : Int32) : ∀ r, fX10_groupOf M p0 p1 p2 = some r → Ct l yX10_groupOf (.code yX10_groupOf cX10_groupOf 4 (some .int)) 1 21 Ω [.ref (wA Ω 0), .int p0, .int p1, .int p2] M ((cpI M) r) := by
  refine ofG [(0, .ref (wA Ω 0)), (1, .int p0), (2, .int p1), (3, .int p2)] hO (by decide) rfl (Nat.le_of_ble_eq_true rfl) rfl ?_
  intro p e s m args below meth c
  unfold fX10_groupOf
  refine g_aload_n 0 rfl rfl 1 rfl dX10_groupOf_0 ?_
  refine w_getR (lm_0 hX) rfl in_X10 1 (by decide) wf_X10_9 1 rfl 4 rfl dX10_groupOf_1 ?_
  refine g_iload_n 1 rfl rfl 5 rfl dX10_groupOf_4 ?_
  refine g_iload_n 2 rfl rfl 6 rfl dX10_groupOf_5 ?_
  refine p_cSI [.int p0, .int p1] [.ref (wA Ω 1)] (c_X10_groupAt l hO M p0 p1) dX10_groupOf_6 us_X10_66 rfl yk_X10_groupAt ⟨by decide, by decide⟩ (Nat.le_of_ble_eq_true rfl) rfl 9 rfl ?_
  intro x1
  refine g_iload_n 3 rfl rfl 10 rfl dX10_groupOf_9 ?_
  refine g_iadd 11 rfl dX10_groupOf_10 ?_
  refine w_iald (lm_1 hX) 12 rfl dX10_groupOf_11 ?_
  exact p_iret rfl dX10_groupOf_12
def fX10_clear (M : Mem) (p0 : Int32) (p1 : Int32) (p2 : Int32) : Option Int32 := clp (fX10_at M p0) (fun x1 => grd (inb (((x1 + 85) + (6 * p1)) + p2) 490) (some (M 1 (((x1 + 85) + (6 * p1)) + p2).toNatClampNeg)))
set_option maxRecDepth 100000 in
set_option maxHeartbeats 4000000 in
theorem c_X10_clear {Ω : Wd} (l : Launch) (hO : OkW Ω) (hX : LM Ω)  (M : Mem) (p0 : Int32) (p1 : Int32) (p2 : Int32) : ∀ r, fX10_clear M p0 p1 p2 = some r → Ct l yX10_clear (.code yX10_clear cX10_clear 4 (some .int)) 1 20 Ω [.ref (wA Ω 0), .int p0, .int p1, .int p2] M ((cpI M) r) := by
  refine ofG [(0, .ref (wA Ω 0)), (1, .int p0), (2, .int p1), (3, .int p2)] hO (by decide) rfl (Nat.le_of_ble_eq_true rfl) rfl ?_
  intro p e s m args below meth c
  unfold fX10_clear
  refine g_aload_n 0 rfl rfl 1 rfl dX10_clear_0 ?_
  refine w_getR (lm_0 hX) rfl in_X10 1 (by decide) wf_X10_9 1 rfl 4 rfl dX10_clear_1 ?_
  refine g_iload_n 1 rfl rfl 5 rfl dX10_clear_4 ?_
  refine p_cSI [.int p0] [.ref (wA Ω 1)] (c_X10_at l hO M p0) dX10_clear_5 us_X10_63 rfl yk_X10_at ⟨by decide, by decide⟩ (Nat.le_of_ble_eq_true rfl) rfl 8 rfl ?_
  intro x1
  refine g_bipush 85 10 rfl dX10_clear_8 (by decide) ?_
  refine g_iadd 11 rfl dX10_clear_10 ?_
  refine g_bipush 6 13 rfl dX10_clear_11 (by decide) ?_
  refine g_iload_n 2 rfl rfl 14 rfl dX10_clear_13 ?_
  refine g_imul 15 rfl dX10_clear_14 ?_
  refine g_iadd 16 rfl dX10_clear_15 ?_
  refine g_iload_n 3 rfl rfl 17 rfl dX10_clear_16 ?_
  refine g_iadd 18 rfl dX10_clear_17 ?_
  refine w_iald (lm_1 hX) 19 rfl dX10_clear_18 ?_
  exact p_iret rfl dX10_clear_19
def fX10_clears (M : Mem) (p0 : Int32) (p1 : Int32) (p2 : Int32) (p3 : Int32) : Option (Unit × Mem) := clp (fX10_at M p0) (fun x1 => grd (inb (((x1 + 85) + (6 * p1)) + p2) 490) (bnd (mset M 1 (((x1 + 85) + (6 * p1)) + p2).toNatClampNeg p3) (fun M2 => some ((), M2))))
set_option maxRecDepth 100000 in
set_option maxHeartbeats 4000000 in
theorem c_X10_clears {Ω : Wd} (l : Launch) (hO : OkW Ω) (hX : LM Ω)  (M : Mem) (p0 : Int32) (p1 : Int32) (p2 : Int32) (p3 : Int32) : ∀ r, fX10_clears M p0 p1 p2 p3 = some r → Ct l yX10_clears (.code yX10_clears cX10_clears 5 none) 1 20 Ω [.ref (wA Ω 0), .int p0, .int p1, .int p2, .int p3] M (cvV r) := by
  refine ofG [(0, .ref (wA Ω 0)), (1, .int p0), (2, .int p1), (3, .int p2), (4, .int p3)] hO (by decide) rfl (Nat.le_of_ble_eq_true rfl) rfl ?_
  intro p e s m args below meth c
  unfold fX10_clears
  refine g_aload_n 0 rfl rfl 1 rfl dX10_clears_0 ?_
  refine w_getR (lm_0 hX) rfl in_X10 1 (by decide) wf_X10_9 1 rfl 4 rfl dX10_clears_1 ?_
  refine g_iload_n 1 rfl rfl 5 rfl dX10_clears_4 ?_
  refine p_cSI [.int p0] [.ref (wA Ω 1)] (c_X10_at l hO M p0) dX10_clears_5 us_X10_63 rfl yk_X10_at ⟨by decide, by decide⟩ (Nat.le_of_ble_eq_true rfl) rfl 8 rfl ?_
  intro x1
  refine g_bipush 85 10 rfl dX10_clears_8 (by decide) ?_
  refine g_iadd 11 rfl dX10_clears_10 ?_
  refine g_bipush 6 13 rfl dX10_clears_11 (by decide) ?_
  refine g_iload_n 2 rfl rfl 14 rfl dX10_clears_13 ?_
  refine g_imul 15 rfl dX10_clears_14 ?_
  refine g_iadd 16 rfl dX10_clears_15 ?_
  refine g_iload_n 3 rfl rfl 17 rfl dX10_clears_16 ?_
  refine g_iadd 18 rfl dX10_clears_17 ?_
  refine g_iload 4 rfl 20 rfl dX10_clears_18 ?_
  refine w_iast (lm_1 hX) 21 rfl dX10_clears_20 ?_
  intro M2
  exact g_vret rfl dX10_clears_21
def fX10_isJunction (M : Mem) (p0 : Int32) : Option Int32 := grd (inb 2 490) (clp (fX10_in M p0 0 ((M 1 (2 : Int32).toNatClampNeg) - 1)) (fun x1 => grd (isb x1) (some x1)))
set_option maxRecDepth 100000 in
set_option maxHeartbeats 4000000 in
theorem c_X10_isJunction {Ω : Wd} (l : Launch) (hO : OkW Ω) (hX : LM Ω)  (M : Mem) (p0 : Int32) : ∀ r, fX10_isJunction M p0 = some r → Ct l yX10_isJunction (.code yX10_isJunction cX10_isJunction 2 (some .boolean)) 1 22 Ω [.ref (wA Ω 0), .int p0] M ((cpI M) r) := by
  refine ofG [(0, .ref (wA Ω 0)), (1, .int p0)] hO (by decide) rfl (Nat.le_of_ble_eq_true rfl) rfl ?_
  intro p e s m args below meth c
  unfold fX10_isJunction
  refine g_iload_n 1 rfl rfl 1 rfl dX10_isJunction_0 ?_
  refine g_iconst 0 2 rfl dX10_isJunction_1 (by decide) ?_
  refine g_aload_n 0 rfl rfl 3 rfl dX10_isJunction_2 ?_
  refine w_getR (lm_0 hX) rfl in_X10 1 (by decide) wf_X10_9 1 rfl 6 rfl dX10_isJunction_3 ?_
  refine g_iconst 2 7 rfl dX10_isJunction_6 (by decide) ?_
  refine w_iald (lm_1 hX) 8 rfl dX10_isJunction_7 ?_
  refine g_iconst 1 9 rfl dX10_isJunction_8 (by decide) ?_
  refine g_isub 10 rfl dX10_isJunction_9 ?_
  refine p_cSI [.int p0, .int 0, .int ((M 1 (2 : Int32).toNatClampNeg) - 1)] [] (c_X10_in l hO M p0 0 ((M 1 (2 : Int32).toNatClampNeg) - 1)) dX10_isJunction_10 us_X10_70 rfl yk_X10_in ⟨by decide, by decide⟩ (Nat.le_of_ble_eq_true rfl) rfl 13 rfl ?_
  intro x1
  exact p_bret rfl dX10_isJunction_13
def fX10_isGroup (M : Mem) (p0 : Int32) (p1 : Int32) : Option Int32 := clp (fX10_isJunction M p0) (fun x1 => jn (fun (a2 : Int32) => grd (isb a2) (some a2)) (fun k3 => jn (fun (a4 : Unit) => k3 0) (fun k5 => if x1 = 0 then (k5 ()) else (clp (fX10_of M p0 2) (fun x6 => clp (fX10_in M p1 0 (x6 - 1)) (fun x7 => if x7 = 0 then (k5 ()) else (k3 1)))))))
set_option maxRecDepth 100000 in
set_option maxHeartbeats 4000000 in
theorem c_X10_isGroup {Ω : Wd} (l : Launch) (hO : OkW Ω) (hX : LM Ω)  (M : Mem) (p0 : Int32) (p1 : Int32) : ∀ r, fX10_isGroup M p0 p1 = some r → Ct l yX10_isGroup (.code yX10_isGroup cX10_isGroup 3 (some .boolean)) 2 43 Ω [.ref (wA Ω 0), .int p0, .int p1] M ((cpI M) r) := by
  refine ofG [(0, .ref (wA Ω 0)), (1, .int p0), (2, .int p1)] hO (by decide) rfl (Nat.le_of_ble_eq_true rfl) rfl ?_
  intro p e s m args below meth c
  unfold fX10_isGroup
  refine g_aload_n 0 rfl rfl 1 rfl dX10_isGroup_0 ?_
  refine g_iload_n 1 rfl rfl 2 rfl dX10_isGroup_1 ?_
  refine p_cVI 0 [.int p0] [] (c_X10_isJunction l hO hX M p0) dX10_isGroup_2 uv_X10_74 rfl yk_X10_isJunction ⟨by decide, by decide⟩ (lm_0 hX).1 (lm_0 hX).2 rfl (Nat.le_of_ble_eq_true rfl) rfl 5 rfl ?_
  intro x1
  refine g_join 29 (fun a2 => []) (fun a2 => [.int a2]) (fun a2 => M) ?_ ?_
  · intro a2
    exact p_bret rfl dX10_isGroup_29
  · intro k3 hk3
    refine g_join 28 (fun a4 => []) (fun a4 => []) (fun a4 => M) ?_ ?_
    · intro a4
      refine g_iconst 0 29 rfl dX10_isGroup_28 (by decide) ?_
      exact hk3 0
    · intro k5 hk5
      refine g_if_eq 28 (by decide) 8 rfl dX10_isGroup_5 ?_ ?_
      · refine g_sub [] [] rfl ?_
        exact hk5 ()
      · refine g_iload_n 2 rfl rfl 9 rfl dX10_isGroup_8 ?_
        refine g_iconst 0 10 rfl dX10_isGroup_9 (by decide) ?_
        refine g_aload_n 0 rfl rfl 11 rfl dX10_isGroup_10 ?_
        refine g_iload_n 1 rfl rfl 12 rfl dX10_isGroup_11 ?_
        refine g_iconst 2 13 rfl dX10_isGroup_12 (by decide) ?_
        refine p_cVI 0 [.int p0, .int 2] [.int 0, .int p1] (c_X10_of l hO hX M p0 2) dX10_isGroup_13 uv_X10_78 rfl yk_X10_of ⟨by decide, by decide⟩ (lm_0 hX).1 (lm_0 hX).2 rfl (Nat.le_of_ble_eq_true rfl) rfl 16 rfl ?_
        intro x6
        refine g_iconst 1 17 rfl dX10_isGroup_16 (by decide) ?_
        refine g_isub 18 rfl dX10_isGroup_17 ?_
        refine p_cSI [.int p1, .int 0, .int (x6 - 1)] [] (c_X10_in l hO M p1 0 (x6 - 1)) dX10_isGroup_18 us_X10_70 rfl yk_X10_in ⟨by decide, by decide⟩ (Nat.le_of_ble_eq_true rfl) rfl 21 rfl ?_
        intro x7
        refine g_if_eq 28 (by decide) 24 rfl dX10_isGroup_21 ?_ ?_
        · refine g_sub [] [] rfl ?_
          exact hk5 ()
        · refine g_iconst 1 25 rfl dX10_isGroup_24 (by decide) ?_
          refine g_goto 29 (by decide) dX10_isGroup_25 ?_
          refine g_sub [] [] rfl ?_
          exact hk3 1
def fX10_isPlan (M : Mem) (p0 : Int32) (p1 : Int32) : Option Int32 := clp (fX10_isJunction M p0) (fun x1 => jn (fun (a2 : Int32) => grd (isb a2) (some a2)) (fun k3 => jn (fun (a4 : Unit) => k3 0) (fun k5 => if x1 = 0 then (k5 ()) else (clp (fX10_in M p1 0 1) (fun x6 => if x6 = 0 then (k5 ()) else (k3 1))))))
set_option maxRecDepth 100000 in
set_option maxHeartbeats 4000000 in
theorem c_X10_isPlan {Ω : Wd} (l : Launch) (hO : OkW Ω) (hX : LM Ω)  (M : Mem) (p0 : Int32) (p1 : Int32) : ∀ r, fX10_isPlan M p0 p1 = some r → Ct l yX10_isPlan (.code yX10_isPlan cX10_isPlan 3 (some .boolean)) 2 43 Ω [.ref (wA Ω 0), .int p0, .int p1] M ((cpI M) r) := by
  refine ofG [(0, .ref (wA Ω 0)), (1, .int p0), (2, .int p1)] hO (by decide) rfl (Nat.le_of_ble_eq_true rfl) rfl ?_
  intro p e s m args below meth c
  unfold fX10_isPlan
  refine g_aload_n 0 rfl rfl 1 rfl dX10_isPlan_0 ?_
  refine g_iload_n 1 rfl rfl 2 rfl dX10_isPlan_1 ?_
  refine p_cVI 0 [.int p0] [] (c_X10_isJunction l hO hX M p0) dX10_isPlan_2 uv_X10_74 rfl yk_X10_isJunction ⟨by decide, by decide⟩ (lm_0 hX).1 (lm_0 hX).2 rfl (Nat.le_of_ble_eq_true rfl) rfl 5 rfl ?_
  intro x1
  refine g_join 22 (fun a2 => []) (fun a2 => [.int a2]) (fun a2 => M) ?_ ?_
  · intro a2
    exact p_bret rfl dX10_isPlan_22
  · intro k3 hk3
    refine g_join 21 (fun a4 => []) (fun a4 => []) (fun a4 => M) ?_ ?_
    · intro a4
      refine g_iconst 0 22 rfl dX10_isPlan_21 (by decide) ?_
      exact hk3 0
    · intro k5 hk5
      refine g_if_eq 21 (by decide) 8 rfl dX10_isPlan_5 ?_ ?_
      · refine g_sub [] [] rfl ?_
        exact hk5 ()
      · refine g_iload_n 2 rfl rfl 9 rfl dX10_isPlan_8 ?_
        refine g_iconst 0 10 rfl dX10_isPlan_9 (by decide) ?_
        refine g_iconst 1 11 rfl dX10_isPlan_10 (by decide) ?_
        refine p_cSI [.int p1, .int 0, .int 1] [] (c_X10_in l hO M p1 0 1) dX10_isPlan_11 us_X10_70 rfl yk_X10_in ⟨by decide, by decide⟩ (Nat.le_of_ble_eq_true rfl) rfl 14 rfl ?_
        intro x6
        refine g_if_eq 21 (by decide) 17 rfl dX10_isPlan_14 ?_ ?_
        · refine g_sub [] [] rfl ?_
          exact hk5 ()
        · refine g_iconst 1 18 rfl dX10_isPlan_17 (by decide) ?_
          refine g_goto 22 (by decide) dX10_isPlan_18 ?_
          refine g_sub [] [] rfl ?_
          exact hk3 1
def fX10_first (M : Mem) (p0 : Int32) (p1 : Int32) (p2 : Int32) : Option Int32 := clp (fX10_groupOf M p0 p2 (9 + (2 * p1))) (fun x1 => some x1)
set_option maxRecDepth 100000 in
set_option maxHeartbeats 4000000 in
theorem c_X10_first {Ω : Wd} (l : Launch) (hO : OkW Ω) (hX : LM Ω)  (M : Mem) (p0 : Int32) (p1 : Int32) (p2 : Int32) : ∀ r, fX10_first M p0 p1 p2 = some r → Ct l yX10_first (.code yX10_first cX10_first 4 (some .int)) 2 44 Ω [.ref (wA Ω 0), .int p0, .int p1, .int p2] M ((cpI M) r) := by
  refine ofG [(0, .ref (wA Ω 0)), (1, .int p0), (2, .int p1), (3, .int p2)] hO (by decide) rfl (Nat.le_of_ble_eq_true rfl) rfl ?_
  intro p e s m args below meth c
  unfold fX10_first
  refine g_aload_n 0 rfl rfl 1 rfl dX10_first_0 ?_
  refine g_iload_n 1 rfl rfl 2 rfl dX10_first_1 ?_
  refine g_iload_n 3 rfl rfl 3 rfl dX10_first_2 ?_
  refine g_bipush 9 5 rfl dX10_first_3 (by decide) ?_
  refine g_iconst 2 6 rfl dX10_first_5 (by decide) ?_
  refine g_iload_n 2 rfl rfl 7 rfl dX10_first_6 ?_
  refine g_imul 8 rfl dX10_first_7 ?_
  refine g_iadd 9 rfl dX10_first_8 ?_
  refine p_cVI 0 [.int p0, .int p2, .int (9 + (2 * p1))] [] (c_X10_groupOf l hO hX M p0 p2 (9 + (2 * p1))) dX10_first_9 uv_X10_89 rfl yk_X10_groupOf ⟨by decide, by decide⟩ (lm_0 hX).1 (lm_0 hX).2 rfl (Nat.le_of_ble_eq_true rfl) rfl 12 rfl ?_
  intro x1
  exact p_iret rfl dX10_first_12
def fX10_length (M : Mem) (p0 : Int32) (p1 : Int32) (p2 : Int32) : Option Int32 := clp (fX10_groupOf M p0 p2 ((9 + (2 * p1)) + 1)) (fun x1 => some x1)
set_option maxRecDepth 100000 in
set_option maxHeartbeats 4000000 in
theorem c_X10_length {Ω : Wd} (l : Launch) (hO : OkW Ω) (hX : LM Ω)  (M : Mem) (p0 : Int32) (p1 : Int32) (p2 : Int32) : ∀ r, fX10_length M p0 p1 p2 = some r → Ct l yX10_length (.code yX10_length cX10_length 4 (some .int)) 2 44 Ω [.ref (wA Ω 0), .int p0, .int p1, .int p2] M ((cpI M) r) := by
  refine ofG [(0, .ref (wA Ω 0)), (1, .int p0), (2, .int p1), (3, .int p2)] hO (by decide) rfl (Nat.le_of_ble_eq_true rfl) rfl ?_
  intro p e s m args below meth c
  unfold fX10_length
  refine g_aload_n 0 rfl rfl 1 rfl dX10_length_0 ?_
  refine g_iload_n 1 rfl rfl 2 rfl dX10_length_1 ?_
  refine g_iload_n 3 rfl rfl 3 rfl dX10_length_2 ?_
  refine g_bipush 9 5 rfl dX10_length_3 (by decide) ?_
  refine g_iconst 2 6 rfl dX10_length_5 (by decide) ?_
  refine g_iload_n 2 rfl rfl 7 rfl dX10_length_6 ?_
  refine g_imul 8 rfl dX10_length_7 ?_
  refine g_iadd 9 rfl dX10_length_8 ?_
  refine g_iconst 1 10 rfl dX10_length_9 (by decide) ?_
  refine g_iadd 11 rfl dX10_length_10 ?_
  refine p_cVI 0 [.int p0, .int p2, .int ((9 + (2 * p1)) + 1)] [] (c_X10_groupOf l hO hX M p0 p2 ((9 + (2 * p1)) + 1)) dX10_length_11 uv_X10_89 rfl yk_X10_groupOf ⟨by decide, by decide⟩ (lm_0 hX).1 (lm_0 hX).2 rfl (Nat.le_of_ble_eq_true rfl) rfl 14 rfl ?_
  intro x1
  exact p_iret rfl dX10_length_14
def fX10_cycle_L1 (M1 : Mem) (k14 : Unit → Option (Int32 × Mem)) (a17 : Int32) (k22 : Unit → Option (Int32 × Mem)) (k25 : Int32 → Option (Int32 × Mem)) (a24 : Int32) : Option (Int32 × Mem) := clp (fX10_of M1 a17 2) (fun x26 => if x26 ≤ a24 then (k22 ()) else (clp (fX10_length M1 a17 0 a24) (fun x27 => clp (fX10_length M1 a17 1 a24) (fun x28 => if x27 + x28 ≤ 0 then (bnd (a24 + 1) (fun x29 => k25 x29)) else (k14 ())))))
def fX10_cycle_L2 (p0 : Int32) (M1 : Mem) (k4 : Unit → Option (Int32 × Mem)) (k10 : Unit → Option (Int32 × Mem)) (k14 : Unit → Option (Int32 × Mem)) (k18 : Int32 → Option (Int32 × Mem)) (a17 : Int32) : Option (Int32 × Mem) := grd (inb 2 490) (if M1 1 (2 : Int32).toNatClampNeg ≤ a17 then (k4 ()) else (clp (fX10_of M1 a17 1) (fun x19 => if p0 ≤ x19 then (k10 ()) else (clp (fX10_of M1 a17 4) (fun x20 => if x20 < 0 then (jn (fun (a21 : Unit) => bnd (a17 + 1) (fun x23 => k18 x23)) (fun k22 => lp (fX10_cycle_L1 M1 k14 a17 k22) FU 0)) else (k10 ()))))))
def fX10_cycle (M : Mem) (p0 : Int32) : Option (Int32 × Mem) := bnd (mset M 0 0 0) (fun M1 => clp (fX10_in M1 p0 30 120) (fun x2 => if x2 = 0 then (cl (fX10_raises M1 1) (fun x30 M31 => some (x30, M31))) else (jn (fun (a3 : Unit) => cl (fX10_changes M1) (fun u5 M6 => grd (inb 0 490) (bnd (M6 1 (0 : Int32).toNatClampNeg) (fun x7 => grd (inb 0 490) (bnd (mset M6 1 (0 : Int32).toNatClampNeg p0) (fun M8 => some (x7, M8))))))) (fun k4 => jn (fun (a9 : Unit) => cl (fX10_raises M1 2) (fun x11 M12 => some (x11, M12))) (fun k10 => jn (fun (a13 : Unit) => cl (fX10_raises M1 2) (fun x15 M16 => some (x15, M16))) (fun k14 => lp (fX10_cycle_L2 p0 M1 k4 k10 k14) FU 0))))))
set_option maxRecDepth 100000 in
set_option maxHeartbeats 4000000 in
theorem c_X10_cycle {Ω : Wd} (l : Launch) (hO : OkW Ω) (hX : LM Ω)  (M : Mem) (p0 : Int32) : ∀ r, fX10_cycle M p0 = some r → Ct l yX10_cycle (.code yX10_cycle cX10_cycle 4 (some .int)) 3 67 Ω [.ref (wA Ω 0), .int p0] M (cvI r) := by
  refine ofG [(0, .ref (wA Ω 0)), (1, .int p0)] hO (by decide) rfl (Nat.le_of_ble_eq_true rfl) rfl ?_
  intro p e s m args below meth c
  unfold fX10_cycle
  refine g_aload_n 0 rfl rfl 1 rfl dX10_cycle_0 ?_
  refine g_iconst 0 2 rfl dX10_cycle_1 (by decide) ?_
  refine w_put (lm_0 hX) rfl in_X10 0 (by decide) wf_X10_47 tyX10 tyX10_ok nmX10 rfl rfl rfl rfl 5 rfl dX10_cycle_2 ?_
  intro M1
  refine g_iload_n 1 rfl rfl 6 rfl dX10_cycle_5 ?_
  refine g_bipush 30 8 rfl dX10_cycle_6 (by decide) ?_
  refine g_bipush 120 10 rfl dX10_cycle_8 (by decide) ?_
  refine p_cSI [.int p0, .int 30, .int 120] [] (c_X10_in l hO M1 p0 30 120) dX10_cycle_10 us_X10_70 rfl yk_X10_in ⟨by decide, by decide⟩ (Nat.le_of_ble_eq_true rfl) rfl 13 rfl ?_
  intro x2
  refine g_if_ne 22 (by decide) 16 rfl dX10_cycle_13 ?_ ?_
  · refine g_aload_n 0 rfl rfl 17 rfl dX10_cycle_16 ?_
    refine g_iconst 1 18 rfl dX10_cycle_17 (by decide) ?_
    refine g_cVI 0 [.int 1] [] (c_X10_raises l hO hX M1 1) dX10_cycle_18 uv_X10_53 rfl yk_X10_raises ⟨by decide, by decide⟩ (lm_0 hX).1 (lm_0 hX).2 rfl (Nat.le_of_ble_eq_true rfl) rfl 21 rfl ?_
    intro x30 M31
    exact g_iret rfl dX10_cycle_21
  · refine g_iconst 0 23 rfl dX10_cycle_22 (by decide) ?_
    refine g_istore_nA [(2, .int 0), (0, .ref (wA Ω 0)), (1, .int p0)] rfl 24 rfl dX10_cycle_23 (by decide) rfl ?_
    refine g_join 107 (fun a3 => [(0, .ref (wA Ω 0)), (1, .int p0)]) (fun a3 => []) (fun a3 => M1) ?_ ?_
    · intro a3
      refine g_aload_n 0 rfl rfl 108 rfl dX10_cycle_107 ?_
      refine g_cVV 0 [] [] (c_X10_changes l hO hX M1) dX10_cycle_108 uv_X10_99 rfl yk_X10_changes ⟨by decide, by decide⟩ (lm_0 hX).1 (lm_0 hX).2 rfl (Nat.le_of_ble_eq_true rfl) rfl 111 rfl ?_
      intro u5 M6
      refine g_aload_n 0 rfl rfl 112 rfl dX10_cycle_111 ?_
      refine w_getR (lm_0 hX) rfl in_X10 1 (by decide) wf_X10_9 1 rfl 115 rfl dX10_cycle_112 ?_
      refine g_iconst 0 116 rfl dX10_cycle_115 (by decide) ?_
      refine w_iald (lm_1 hX) 117 rfl dX10_cycle_116 ?_
      refine g_istore_n (fun x7 => [(2, .int x7), (0, .ref (wA Ω 0)), (1, .int p0)]) rfl 118 rfl dX10_cycle_117 (by decide) (fun _ => rfl) ?_
      intro x7
      refine g_aload_n 1 rfl rfl 119 rfl dX10_cycle_118 ?_
      refine w_getR (lm_0 hX) rfl in_X10 1 (by decide) wf_X10_9 1 rfl 122 rfl dX10_cycle_119 ?_
      refine g_iconst 0 123 rfl dX10_cycle_122 (by decide) ?_
      refine g_iload_n 2 rfl rfl 124 rfl dX10_cycle_123 ?_
      refine w_iast (lm_1 hX) 125 rfl dX10_cycle_124 ?_
      intro M8
      refine g_iload_n 0 rfl rfl 126 rfl dX10_cycle_125 ?_
      exact g_iret rfl dX10_cycle_126
    · intro k4 hk4
      refine g_join 53 (fun a9 => [(0, .ref (wA Ω 0))]) (fun a9 => []) (fun a9 => M1) ?_ ?_
      · intro a9
        refine g_aload_n 0 rfl rfl 54 rfl dX10_cycle_53 ?_
        refine g_iconst 2 55 rfl dX10_cycle_54 (by decide) ?_
        refine g_cVI 0 [.int 2] [] (c_X10_raises l hO hX M1 2) dX10_cycle_55 uv_X10_53 rfl yk_X10_raises ⟨by decide, by decide⟩ (lm_0 hX).1 (lm_0 hX).2 rfl (Nat.le_of_ble_eq_true rfl) rfl 58 rfl ?_
        intro x11 M12
        exact g_iret rfl dX10_cycle_58
      · intro k10 hk10
        refine g_join 89 (fun a13 => [(0, .ref (wA Ω 0))]) (fun a13 => []) (fun a13 => M1) ?_ ?_
        · intro a13
          refine g_aload_n 0 rfl rfl 90 rfl dX10_cycle_89 ?_
          refine g_iconst 2 91 rfl dX10_cycle_90 (by decide) ?_
          refine g_cVI 0 [.int 2] [] (c_X10_raises l hO hX M1 2) dX10_cycle_91 uv_X10_53 rfl yk_X10_raises ⟨by decide, by decide⟩ (lm_0 hX).1 (lm_0 hX).2 rfl (Nat.le_of_ble_eq_true rfl) rfl 94 rfl ?_
          intro x15 M16
          exact g_iret rfl dX10_cycle_94
        · intro k14 hk14
          refine g_sub [(0, .ref (wA Ω 0)), (1, .int p0), (2, .int 0)] [1, 2, 0] rfl ?_
          refine g_loop 24 (fun a17 => [(0, .ref (wA Ω 0)), (1, .int p0), (2, .int a17)]) (fun _ => []) (fun a17 => M1) ?_ FU 0
          intro k18 hk18 a17
          unfold fX10_cycle_L2
          refine g_iload_n 2 rfl rfl 25 rfl dX10_cycle_24 ?_
          refine g_aload_n 0 rfl rfl 26 rfl dX10_cycle_25 ?_
          refine w_getR (lm_0 hX) rfl in_X10 1 (by decide) wf_X10_9 1 rfl 29 rfl dX10_cycle_26 ?_
          refine g_iconst 2 30 rfl dX10_cycle_29 (by decide) ?_
          refine w_iald (lm_1 hX) 31 rfl dX10_cycle_30 ?_
          refine g_icmp_ge 107 (by decide) 34 rfl dX10_cycle_31 ?_ ?_
          · refine g_sub [(0, .ref (wA Ω 0)), (1, .int p0)] [0, 1] rfl ?_
            exact hk4 ()
          · refine g_aload_n 0 rfl rfl 35 rfl dX10_cycle_34 ?_
            refine g_iload_n 2 rfl rfl 36 rfl dX10_cycle_35 ?_
            refine g_iconst 1 37 rfl dX10_cycle_36 (by decide) ?_
            refine p_cVI 0 [.int a17, .int 1] [] (c_X10_of l hO hX M1 a17 1) dX10_cycle_37 uv_X10_78 rfl yk_X10_of ⟨by decide, by decide⟩ (lm_0 hX).1 (lm_0 hX).2 rfl (Nat.le_of_ble_eq_true rfl) rfl 40 rfl ?_
            intro x19
            refine g_iload_n 1 rfl rfl 41 rfl dX10_cycle_40 ?_
            refine g_icmp_ge 53 (by decide) 44 rfl dX10_cycle_41 ?_ ?_
            · refine g_sub [(0, .ref (wA Ω 0))] [0] rfl ?_
              exact hk10 ()
            · refine g_aload_n 0 rfl rfl 45 rfl dX10_cycle_44 ?_
              refine g_iload_n 2 rfl rfl 46 rfl dX10_cycle_45 ?_
              refine g_iconst 4 47 rfl dX10_cycle_46 (by decide) ?_
              refine p_cVI 0 [.int a17, .int 4] [] (c_X10_of l hO hX M1 a17 4) dX10_cycle_47 uv_X10_78 rfl yk_X10_of ⟨by decide, by decide⟩ (lm_0 hX).1 (lm_0 hX).2 rfl (Nat.le_of_ble_eq_true rfl) rfl 50 rfl ?_
              intro x20
              refine g_if_lt 59 (by decide) 53 rfl dX10_cycle_50 ?_ ?_
              · refine g_iconst 0 60 rfl dX10_cycle_59 (by decide) ?_
                refine g_istore_nA [(3, .int 0), (0, .ref (wA Ω 0)), (1, .int p0), (2, .int a17)] rfl 61 rfl dX10_cycle_60 (by decide) rfl ?_
                refine g_join 101 (fun a21 => [(0, .ref (wA Ω 0)), (1, .int p0), (2, .int a17)]) (fun a21 => []) (fun a21 => M1) ?_ ?_
                · intro a21
                  refine g_iinc 2 rfl 1 (by decide) (fun x23 => [(2, .int x23), (0, .ref (wA Ω 0)), (1, .int p0)]) 104 rfl dX10_cycle_101 (by decide) (fun _ => rfl) ?_
                  intro x23
                  refine g_goto 24 (by decide) dX10_cycle_104 ?_
                  refine g_sub [(0, .ref (wA Ω 0)), (1, .int p0), (2, .int x23)] [1, 2, 0] rfl ?_
                  exact hk18 x23
                · intro k22 hk22
                  refine g_sub [(0, .ref (wA Ω 0)), (1, .int p0), (2, .int a17), (3, .int 0)] [1, 2, 3, 0] rfl ?_
                  refine g_loop 61 (fun a24 => [(0, .ref (wA Ω 0)), (1, .int p0), (2, .int a17), (3, .int a24)]) (fun _ => []) (fun a24 => M1) ?_ FU 0
                  intro k25 hk25 a24
                  unfold fX10_cycle_L1
                  refine g_iload_n 3 rfl rfl 62 rfl dX10_cycle_61 ?_
                  refine g_aload_n 0 rfl rfl 63 rfl dX10_cycle_62 ?_
                  refine g_iload_n 2 rfl rfl 64 rfl dX10_cycle_63 ?_
                  refine g_iconst 2 65 rfl dX10_cycle_64 (by decide) ?_
                  refine p_cVI 0 [.int a17, .int 2] [.int a24] (c_X10_of l hO hX M1 a17 2) dX10_cycle_65 uv_X10_78 rfl yk_X10_of ⟨by decide, by decide⟩ (lm_0 hX).1 (lm_0 hX).2 rfl (Nat.le_of_ble_eq_true rfl) rfl 68 rfl ?_
                  intro x26
                  refine g_icmp_ge 101 (by decide) 71 rfl dX10_cycle_68 ?_ ?_
                  · refine g_sub [(0, .ref (wA Ω 0)), (1, .int p0), (2, .int a17)] [0, 1, 2] rfl ?_
                    exact hk22 ()
                  · refine g_aload_n 0 rfl rfl 72 rfl dX10_cycle_71 ?_
                    refine g_iload_n 2 rfl rfl 73 rfl dX10_cycle_72 ?_
                    refine g_iconst 0 74 rfl dX10_cycle_73 (by decide) ?_
                    refine g_iload_n 3 rfl rfl 75 rfl dX10_cycle_74 ?_
                    refine p_cVI 0 [.int a17, .int 0, .int a24] [] (c_X10_length l hO hX M1 a17 0 a24) dX10_cycle_75 uv_X10_96 rfl yk_X10_length ⟨by decide, by decide⟩ (lm_0 hX).1 (lm_0 hX).2 rfl (Nat.le_of_ble_eq_true rfl) rfl 78 rfl ?_
                    intro x27
                    refine g_aload_n 0 rfl rfl 79 rfl dX10_cycle_78 ?_
                    refine g_iload_n 2 rfl rfl 80 rfl dX10_cycle_79 ?_
                    refine g_iconst 1 81 rfl dX10_cycle_80 (by decide) ?_
                    refine g_iload_n 3 rfl rfl 82 rfl dX10_cycle_81 ?_
                    refine p_cVI 0 [.int a17, .int 1, .int a24] [.int x27] (c_X10_length l hO hX M1 a17 1 a24) dX10_cycle_82 uv_X10_96 rfl yk_X10_length ⟨by decide, by decide⟩ (lm_0 hX).1 (lm_0 hX).2 rfl (Nat.le_of_ble_eq_true rfl) rfl 85 rfl ?_
                    intro x28
                    refine g_iadd 86 rfl dX10_cycle_85 ?_
                    refine g_if_le 95 (by decide) 89 rfl dX10_cycle_86 ?_ ?_
                    · refine g_iinc 3 rfl 1 (by decide) (fun x29 => [(3, .int x29), (0, .ref (wA Ω 0)), (1, .int p0), (2, .int a17)]) 98 rfl dX10_cycle_95 (by decide) (fun _ => rfl) ?_
                      intro x29
                      refine g_goto 61 (by decide) dX10_cycle_98 ?_
                      refine g_sub [(0, .ref (wA Ω 0)), (1, .int p0), (2, .int a17), (3, .int x29)] [1, 2, 3, 0] rfl ?_
                      exact hk25 x29
                    · refine g_sub [(0, .ref (wA Ω 0))] [0] rfl ?_
                      exact hk14 ()
              · refine g_sub [(0, .ref (wA Ω 0))] [0] rfl ?_
                exact hk10 ()
def fX10_speed (M : Mem) (p0 : Int32) : Option (Int32 × Mem) := bnd (mset M 0 0 0) (fun M1 => clp (fX10_in M1 p0 5 25) (fun x2 => if x2 = 0 then (cl (fX10_raises M1 1) (fun x7 M8 => some (x7, M8))) else (cl (fX10_changes M1) (fun u3 M4 => grd (inb 1 490) (bnd (M4 1 (1 : Int32).toNatClampNeg) (fun x5 => grd (inb 1 490) (bnd (mset M4 1 (1 : Int32).toNatClampNeg p0) (fun M6 => some (x5, M6)))))))))
set_option maxRecDepth 100000 in
set_option maxHeartbeats 4000000 in
theorem c_X10_speed {Ω : Wd} (l : Launch) (hO : OkW Ω) (hX : LM Ω)  (M : Mem) (p0 : Int32) : ∀ r, fX10_speed M p0 = some r → Ct l yX10_speed (.code yX10_speed cX10_speed 3 (some .int)) 2 42 Ω [.ref (wA Ω 0), .int p0] M (cvI r) := by
  refine ofG [(0, .ref (wA Ω 0)), (1, .int p0)] hO (by decide) rfl (Nat.le_of_ble_eq_true rfl) rfl ?_
  intro p e s m args below meth c
  unfold fX10_speed
  refine g_aload_n 0 rfl rfl 1 rfl dX10_speed_0 ?_
  refine g_iconst 0 2 rfl dX10_speed_1 (by decide) ?_
  refine w_put (lm_0 hX) rfl in_X10 0 (by decide) wf_X10_47 tyX10 tyX10_ok nmX10 rfl rfl rfl rfl 5 rfl dX10_speed_2 ?_
  intro M1
  refine g_iload_n 1 rfl rfl 6 rfl dX10_speed_5 ?_
  refine g_iconst 5 7 rfl dX10_speed_6 (by decide) ?_
  refine g_bipush 25 9 rfl dX10_speed_7 (by decide) ?_
  refine p_cSI [.int p0, .int 5, .int 25] [] (c_X10_in l hO M1 p0 5 25) dX10_speed_9 us_X10_70 rfl yk_X10_in ⟨by decide, by decide⟩ (Nat.le_of_ble_eq_true rfl) rfl 12 rfl ?_
  intro x2
  refine g_if_ne 21 (by decide) 15 rfl dX10_speed_12 ?_ ?_
  · refine g_aload_n 0 rfl rfl 16 rfl dX10_speed_15 ?_
    refine g_iconst 1 17 rfl dX10_speed_16 (by decide) ?_
    refine g_cVI 0 [.int 1] [] (c_X10_raises l hO hX M1 1) dX10_speed_17 uv_X10_53 rfl yk_X10_raises ⟨by decide, by decide⟩ (lm_0 hX).1 (lm_0 hX).2 rfl (Nat.le_of_ble_eq_true rfl) rfl 20 rfl ?_
    intro x7 M8
    exact g_iret rfl dX10_speed_20
  · refine g_aload_n 0 rfl rfl 22 rfl dX10_speed_21 ?_
    refine g_cVV 0 [] [] (c_X10_changes l hO hX M1) dX10_speed_22 uv_X10_99 rfl yk_X10_changes ⟨by decide, by decide⟩ (lm_0 hX).1 (lm_0 hX).2 rfl (Nat.le_of_ble_eq_true rfl) rfl 25 rfl ?_
    intro u3 M4
    refine g_aload_n 0 rfl rfl 26 rfl dX10_speed_25 ?_
    refine w_getR (lm_0 hX) rfl in_X10 1 (by decide) wf_X10_9 1 rfl 29 rfl dX10_speed_26 ?_
    refine g_iconst 1 30 rfl dX10_speed_29 (by decide) ?_
    refine w_iald (lm_1 hX) 31 rfl dX10_speed_30 ?_
    refine g_istore_n (fun x5 => [(2, .int x5), (0, .ref (wA Ω 0)), (1, .int p0)]) rfl 32 rfl dX10_speed_31 (by decide) (fun _ => rfl) ?_
    intro x5
    refine g_aload_n 1 rfl rfl 33 rfl dX10_speed_32 ?_
    refine w_getR (lm_0 hX) rfl in_X10 1 (by decide) wf_X10_9 1 rfl 36 rfl dX10_speed_33 ?_
    refine g_iconst 1 37 rfl dX10_speed_36 (by decide) ?_
    refine g_iload_n 2 rfl rfl 38 rfl dX10_speed_37 ?_
    refine w_iast (lm_1 hX) 39 rfl dX10_speed_38 ?_
    intro M6
    refine g_iload_n 0 rfl rfl 40 rfl dX10_speed_39 ?_
    exact g_iret rfl dX10_speed_40
def fX10_junction_L1 (x2 : Int32) (k13 : Mem → Option (Int32 × Mem)) (k18 : (Int32 × Mem) → Option (Int32 × Mem)) (a17 : Int32 × Mem) : Option (Int32 × Mem) := if 121 ≤ a17.1 then (k13 a17.2) else (clp (fX10_at a17.2 x2) (fun x19 => jn (fun (a20 : Int32) => grd (inb (x19 + a17.1) 490) (bnd (mset a17.2 1 (x19 + a17.1).toNatClampNeg a20) (fun M22 => bnd (a17.1 + 1) (fun x23 => k18 (x23, M22))))) (fun k21 => jn (fun (a24 : Unit) => k21 (-1)) (fun k25 => if 85 ≤ a17.1 then (k25 ()) else (if a17.1 = 4 then (k25 ()) else (if a17.1 = 5 then (k25 ()) else (if a17.1 = 6 then (k25 ()) else (k21 0))))))))
def fX10_junction (M : Mem) (p0 : Int32) : Option (Int32 × Mem) := bnd (mset M 0 0 0) (fun M1 => grd (inb 2 490) (bnd (M1 1 (2 : Int32).toNatClampNeg) (fun x2 => clp (fX10_in M1 p0 0 9999) (fun x3 => jn (fun (a4 : Unit) => cl (fX10_raises M1 1) (fun x6 M7 => some (x6, M7))) (fun k5 => if x3 = 0 then (k5 ()) else (jn (fun (a8 : Unit) => if x2 = 4 then (cl (fX10_raises M1 2) (fun x26 M27 => some (x26, M27))) else (cl (fX10_changes M1) (fun u10 M11 => jn (fun (a12 : Mem) => clp (fX10_at a12 x2) (fun x14 => grd (inb x14 490) (bnd (mset a12 1 x14.toNatClampNeg p0) (fun M15 => grd (inb 2 490) (grd (inb 2 490) (bnd (mset M15 1 (2 : Int32).toNatClampNeg ((M15 1 (2 : Int32).toNatClampNeg) + 1)) (fun M16 => some (M15 1 (2 : Int32).toNatClampNeg, M16)))))))) (fun k13 => lp (fX10_junction_L1 x2 k13) FU (0, M11))))) (fun k9 => if x2 ≤ 0 then (k9 ()) else (clp (fX10_of M1 (x2 - 1) 0) (fun x28 => if x28 < p0 then (k9 ()) else (k5 ()))))))))))
set_option maxRecDepth 100000 in
set_option maxHeartbeats 4000000 in
theorem c_X10_junction {Ω : Wd} (l : Launch) (hO : OkW Ω) (hX : LM Ω)  (M : Mem) (p0 : Int32) : ∀ r, fX10_junction M p0 = some r → Ct l yX10_junction (.code yX10_junction cX10_junction 4 (some .int)) 2 42 Ω [.ref (wA Ω 0), .int p0] M (cvI r) := by
  refine ofG [(0, .ref (wA Ω 0)), (1, .int p0)] hO (by decide) rfl (Nat.le_of_ble_eq_true rfl) rfl ?_
  intro p e s m args below meth c
  unfold fX10_junction
  refine g_aload_n 0 rfl rfl 1 rfl dX10_junction_0 ?_
  refine g_iconst 0 2 rfl dX10_junction_1 (by decide) ?_
  refine w_put (lm_0 hX) rfl in_X10 0 (by decide) wf_X10_47 tyX10 tyX10_ok nmX10 rfl rfl rfl rfl 5 rfl dX10_junction_2 ?_
  intro M1
  refine g_aload_n 0 rfl rfl 6 rfl dX10_junction_5 ?_
  refine w_getR (lm_0 hX) rfl in_X10 1 (by decide) wf_X10_9 1 rfl 9 rfl dX10_junction_6 ?_
  refine g_iconst 2 10 rfl dX10_junction_9 (by decide) ?_
  refine w_iald (lm_1 hX) 11 rfl dX10_junction_10 ?_
  refine g_istore_n (fun x2 => [(2, .int x2), (0, .ref (wA Ω 0)), (1, .int p0)]) rfl 12 rfl dX10_junction_11 (by decide) (fun _ => rfl) ?_
  intro x2
  refine g_iload_n 2 rfl rfl 13 rfl dX10_junction_12 ?_
  refine g_iconst 0 14 rfl dX10_junction_13 (by decide) ?_
  refine g_sipush 9999 17 rfl dX10_junction_14 (by decide) ?_
  refine p_cSI [.int p0, .int 0, .int 9999] [] (c_X10_in l hO M1 p0 0 9999) dX10_junction_17 us_X10_70 rfl yk_X10_in ⟨by decide, by decide⟩ (Nat.le_of_ble_eq_true rfl) rfl 20 rfl ?_
  intro x3
  refine g_join 39 (fun a4 => [(0, .ref (wA Ω 0))]) (fun a4 => []) (fun a4 => M1) ?_ ?_
  · intro a4
    refine g_aload_n 0 rfl rfl 40 rfl dX10_junction_39 ?_
    refine g_iconst 1 41 rfl dX10_junction_40 (by decide) ?_
    refine g_cVI 0 [.int 1] [] (c_X10_raises l hO hX M1 1) dX10_junction_41 uv_X10_53 rfl yk_X10_raises ⟨by decide, by decide⟩ (lm_0 hX).1 (lm_0 hX).2 rfl (Nat.le_of_ble_eq_true rfl) rfl 44 rfl ?_
    intro x6 M7
    exact g_iret rfl dX10_junction_44
  · intro k5 hk5
    refine g_if_eq 39 (by decide) 23 rfl dX10_junction_20 ?_ ?_
    · refine g_sub [(0, .ref (wA Ω 0))] [1] rfl ?_
      exact hk5 ()
    · refine g_iload_n 0 rfl rfl 24 rfl dX10_junction_23 ?_
      refine g_join 45 (fun a8 => [(0, .ref (wA Ω 0)), (1, .int p0), (2, .int x2)]) (fun a8 => []) (fun a8 => M1) ?_ ?_
      · intro a8
        refine g_iload_n 2 rfl rfl 46 rfl dX10_junction_45 ?_
        refine g_iconst 4 47 rfl dX10_junction_46 (by decide) ?_
        refine g_icmp_ne 56 (by decide) 50 rfl dX10_junction_47 ?_ ?_
        · refine g_aload_n 0 rfl rfl 51 rfl dX10_junction_50 ?_
          refine g_iconst 2 52 rfl dX10_junction_51 (by decide) ?_
          refine g_cVI 0 [.int 2] [] (c_X10_raises l hO hX M1 2) dX10_junction_52 uv_X10_53 rfl yk_X10_raises ⟨by decide, by decide⟩ (lm_0 hX).1 (lm_0 hX).2 rfl (Nat.le_of_ble_eq_true rfl) rfl 55 rfl ?_
          intro x26 M27
          exact g_iret rfl dX10_junction_55
        · refine g_aload_n 0 rfl rfl 57 rfl dX10_junction_56 ?_
          refine g_cVV 0 [] [] (c_X10_changes l hO hX M1) dX10_junction_57 uv_X10_99 rfl yk_X10_changes ⟨by decide, by decide⟩ (lm_0 hX).1 (lm_0 hX).2 rfl (Nat.le_of_ble_eq_true rfl) rfl 60 rfl ?_
          intro u10 M11
          refine g_iconst 0 61 rfl dX10_junction_60 (by decide) ?_
          refine g_istore_nA [(3, .int 0), (0, .ref (wA Ω 0)), (1, .int p0), (2, .int x2)] rfl 62 rfl dX10_junction_61 (by decide) rfl ?_
          refine g_join 112 (fun a12 => [(0, .ref (wA Ω 0)), (1, .int p0), (2, .int x2)]) (fun a12 => []) (fun a12 => a12) ?_ ?_
          · intro a12
            refine g_aload_n 0 rfl rfl 113 rfl dX10_junction_112 ?_
            refine w_getR (lm_0 hX) rfl in_X10 1 (by decide) wf_X10_9 1 rfl 116 rfl dX10_junction_113 ?_
            refine g_iload_n 2 rfl rfl 117 rfl dX10_junction_116 ?_
            refine p_cSI [.int x2] [.ref (wA Ω 1)] (c_X10_at l hO a12 x2) dX10_junction_117 us_X10_63 rfl yk_X10_at ⟨by decide, by decide⟩ (Nat.le_of_ble_eq_true rfl) rfl 120 rfl ?_
            intro x14
            refine g_iload_n 1 rfl rfl 121 rfl dX10_junction_120 ?_
            refine w_iast (lm_1 hX) 122 rfl dX10_junction_121 ?_
            intro M15
            refine g_aload_n 0 rfl rfl 123 rfl dX10_junction_122 ?_
            refine w_getR (lm_0 hX) rfl in_X10 1 (by decide) wf_X10_9 1 rfl 126 rfl dX10_junction_123 ?_
            refine g_iconst 2 127 rfl dX10_junction_126 (by decide) ?_
            refine g_dup2 128 rfl dX10_junction_127 rfl rfl ?_
            refine w_iald (lm_1 hX) 129 rfl dX10_junction_128 ?_
            refine g_dup_x2 130 rfl dX10_junction_129 rfl rfl rfl ?_
            refine g_iconst 1 131 rfl dX10_junction_130 (by decide) ?_
            refine g_iadd 132 rfl dX10_junction_131 ?_
            refine w_iast (lm_1 hX) 133 rfl dX10_junction_132 ?_
            intro M16
            exact g_iret rfl dX10_junction_133
          · intro k13 hk13
            refine g_sub [(0, .ref (wA Ω 0)), (1, .int p0), (2, .int x2), (3, .int 0)] [1, 2, 3, 0] rfl ?_
            refine g_loop 62 (fun a17 => [(0, .ref (wA Ω 0)), (1, .int p0), (2, .int x2), (3, .int a17.1)]) (fun _ => []) (fun a17 => a17.2) ?_ FU (0, M11)
            intro k18 hk18 a17
            unfold fX10_junction_L1
            refine g_iload_n 3 rfl rfl 63 rfl dX10_junction_62 ?_
            refine g_bipush 121 65 rfl dX10_junction_63 (by decide) ?_
            refine g_icmp_ge 112 (by decide) 68 rfl dX10_junction_65 ?_ ?_
            · refine g_sub [(0, .ref (wA Ω 0)), (1, .int p0), (2, .int x2)] [0, 1, 2] rfl ?_
              exact hk13 a17.2
            · refine g_aload_n 0 rfl rfl 69 rfl dX10_junction_68 ?_
              refine w_getR (lm_0 hX) rfl in_X10 1 (by decide) wf_X10_9 1 rfl 72 rfl dX10_junction_69 ?_
              refine g_iload_n 2 rfl rfl 73 rfl dX10_junction_72 ?_
              refine p_cSI [.int x2] [.ref (wA Ω 1)] (c_X10_at l hO a17.2 x2) dX10_junction_73 us_X10_63 rfl yk_X10_at ⟨by decide, by decide⟩ (Nat.le_of_ble_eq_true rfl) rfl 76 rfl ?_
              intro x19
              refine g_iload_n 3 rfl rfl 77 rfl dX10_junction_76 ?_
              refine g_iadd 78 rfl dX10_junction_77 ?_
              refine g_iload_n 3 rfl rfl 79 rfl dX10_junction_78 ?_
              refine g_bipush 85 81 rfl dX10_junction_79 (by decide) ?_
              refine g_join 105 (fun a20 => [(0, .ref (wA Ω 0)), (1, .int p0), (2, .int x2), (3, .int a17.1)]) (fun a20 => [.int a20, .int (x19 + a17.1), .ref (wA Ω 1)]) (fun a20 => a17.2) ?_ ?_
              · intro a20
                refine w_iast (lm_1 hX) 106 rfl dX10_junction_105 ?_
                intro M22
                refine g_iinc 3 rfl 1 (by decide) (fun x23 => [(3, .int x23), (0, .ref (wA Ω 0)), (1, .int p0), (2, .int x2)]) 109 rfl dX10_junction_106 (by decide) (fun _ => rfl) ?_
                intro x23
                refine g_goto 62 (by decide) dX10_junction_109 ?_
                refine g_sub [(0, .ref (wA Ω 0)), (1, .int p0), (2, .int x2), (3, .int x23)] [1, 2, 3, 0] rfl ?_
                exact hk18 (x23, M22)
              · intro k21 hk21
                refine g_join 100 (fun a24 => [(0, .ref (wA Ω 0)), (1, .int p0), (2, .int x2), (3, .int a17.1)]) (fun a24 => [.int (x19 + a17.1), .ref (wA Ω 1)]) (fun a24 => a17.2) ?_ ?_
                · intro a24
                  refine g_iconst (-1) 101 rfl dX10_junction_100 (by decide) ?_
                  refine g_goto 105 (by decide) dX10_junction_101 ?_
                  exact hk21 (-1)
                · intro k25 hk25
                  refine g_icmp_ge 100 (by decide) 84 rfl dX10_junction_81 ?_ ?_
                  · exact hk25 ()
                  · refine g_iload_n 3 rfl rfl 85 rfl dX10_junction_84 ?_
                    refine g_iconst 4 86 rfl dX10_junction_85 (by decide) ?_
                    refine g_icmp_eq 100 (by decide) 89 rfl dX10_junction_86 ?_ ?_
                    · exact hk25 ()
                    · refine g_iload_n 3 rfl rfl 90 rfl dX10_junction_89 ?_
                      refine g_iconst 5 91 rfl dX10_junction_90 (by decide) ?_
                      refine g_icmp_eq 100 (by decide) 94 rfl dX10_junction_91 ?_ ?_
                      · exact hk25 ()
                      · refine g_iload_n 3 rfl rfl 95 rfl dX10_junction_94 ?_
                        refine g_bipush 6 97 rfl dX10_junction_95 (by decide) ?_
                        refine g_icmp_ne 104 (by decide) 100 rfl dX10_junction_97 ?_ ?_
                        · exact hk25 ()
                        · refine g_iconst 0 105 rfl dX10_junction_104 (by decide) ?_
                          exact hk21 0
      · intro k9 hk9
        refine g_if_le 45 (by decide) 27 rfl dX10_junction_24 ?_ ?_
        · refine g_sub [(0, .ref (wA Ω 0)), (1, .int p0), (2, .int x2)] [1, 2, 0] rfl ?_
          exact hk9 ()
        · refine g_iload_n 2 rfl rfl 28 rfl dX10_junction_27 ?_
          refine g_aload_n 1 rfl rfl 29 rfl dX10_junction_28 ?_
          refine g_iload_n 0 rfl rfl 30 rfl dX10_junction_29 ?_
          refine g_iconst 1 31 rfl dX10_junction_30 (by decide) ?_
          refine g_isub 32 rfl dX10_junction_31 ?_
          refine g_iconst 0 33 rfl dX10_junction_32 (by decide) ?_
          refine p_cVI 0 [.int (x2 - 1), .int 0] [.int p0] (c_X10_of l hO hX M1 (x2 - 1) 0) dX10_junction_33 uv_X10_78 rfl yk_X10_of ⟨by decide, by decide⟩ (lm_0 hX).1 (lm_0 hX).2 rfl (Nat.le_of_ble_eq_true rfl) rfl 36 rfl ?_
          intro x28
          refine g_icmp_gt 45 (by decide) 39 rfl dX10_junction_36 ?_ ?_
          · refine g_sub [(0, .ref (wA Ω 0)), (1, .int p0), (2, .int x2)] [1, 2, 0] rfl ?_
            exact hk9 ()
          · refine g_sub [(0, .ref (wA Ω 0))] [1] rfl ?_
            exact hk5 ()
def fX10_offsets (M : Mem) (p0 : Int32) (p1 : Int32) : Option (Int32 × Mem) := clp (fX10_isJunction M p0) (fun x1 => if x1 = 0 then (some (1, M)) else (grd (inb 0 490) (clp (fX10_in M p1 0 ((M 1 (0 : Int32).toNatClampNeg) - 1)) (fun x2 => if x2 = 0 then (some (2, M)) else (clp (fX10_of M p0 4) (fun x3 => if x3 < 0 then (clp (fX10_of M p0 1) (fun x4 => bnd (mset M 0 21 x4) (fun M5 => clp (fX10_at M5 p0) (fun x6 => grd (inb (x6 + 1) 490) (bnd (mset M5 1 (x6 + 1).toNatClampNeg p1) (fun M7 => some (0, M7))))))) else (some (3, M))))))))
set_option maxRecDepth 100000 in
set_option maxHeartbeats 4000000 in
theorem c_X10_offsets {Ω : Wd} (l : Launch) (hO : OkW Ω) (hX : LM Ω)  (M : Mem) (p0 : Int32) (p1 : Int32) : ∀ r, fX10_offsets M p0 p1 = some r → Ct l yX10_offsets (.code yX10_offsets cX10_offsets 3 (some .int)) 2 43 Ω [.ref (wA Ω 0), .int p0, .int p1] M (cvI r) := by
  refine ofG [(0, .ref (wA Ω 0)), (1, .int p0), (2, .int p1)] hO (by decide) rfl (Nat.le_of_ble_eq_true rfl) rfl ?_
  intro p e s m args below meth c
  unfold fX10_offsets
  refine g_aload_n 0 rfl rfl 1 rfl dX10_offsets_0 ?_
  refine g_iload_n 1 rfl rfl 2 rfl dX10_offsets_1 ?_
  refine p_cVI 0 [.int p0] [] (c_X10_isJunction l hO hX M p0) dX10_offsets_2 uv_X10_74 rfl yk_X10_isJunction ⟨by decide, by decide⟩ (lm_0 hX).1 (lm_0 hX).2 rfl (Nat.le_of_ble_eq_true rfl) rfl 5 rfl ?_
  intro x1
  refine g_if_ne 10 (by decide) 8 rfl dX10_offsets_5 ?_ ?_
  · refine g_iconst 1 9 rfl dX10_offsets_8 (by decide) ?_
    exact g_iret rfl dX10_offsets_9
  · refine g_iload_n 2 rfl rfl 11 rfl dX10_offsets_10 ?_
    refine g_iconst 0 12 rfl dX10_offsets_11 (by decide) ?_
    refine g_aload_n 0 rfl rfl 13 rfl dX10_offsets_12 ?_
    refine w_getR (lm_0 hX) rfl in_X10 1 (by decide) wf_X10_9 1 rfl 16 rfl dX10_offsets_13 ?_
    refine g_iconst 0 17 rfl dX10_offsets_16 (by decide) ?_
    refine w_iald (lm_1 hX) 18 rfl dX10_offsets_17 ?_
    refine g_iconst 1 19 rfl dX10_offsets_18 (by decide) ?_
    refine g_isub 20 rfl dX10_offsets_19 ?_
    refine p_cSI [.int p1, .int 0, .int ((M 1 (0 : Int32).toNatClampNeg) - 1)] [] (c_X10_in l hO M p1 0 ((M 1 (0 : Int32).toNatClampNeg) - 1)) dX10_offsets_20 us_X10_70 rfl yk_X10_in ⟨by decide, by decide⟩ (Nat.le_of_ble_eq_true rfl) rfl 23 rfl ?_
    intro x2
    refine g_if_ne 28 (by decide) 26 rfl dX10_offsets_23 ?_ ?_
    · refine g_iconst 2 27 rfl dX10_offsets_26 (by decide) ?_
      exact g_iret rfl dX10_offsets_27
    · refine g_aload_n 0 rfl rfl 29 rfl dX10_offsets_28 ?_
      refine g_iload_n 1 rfl rfl 30 rfl dX10_offsets_29 ?_
      refine g_iconst 4 31 rfl dX10_offsets_30 (by decide) ?_
      refine p_cVI 0 [.int p0, .int 4] [] (c_X10_of l hO hX M p0 4) dX10_offsets_31 uv_X10_78 rfl yk_X10_of ⟨by decide, by decide⟩ (lm_0 hX).1 (lm_0 hX).2 rfl (Nat.le_of_ble_eq_true rfl) rfl 34 rfl ?_
      intro x3
      refine g_if_lt 39 (by decide) 37 rfl dX10_offsets_34 ?_ ?_
      · refine g_aload_n 0 rfl rfl 40 rfl dX10_offsets_39 ?_
        refine g_aload_n 0 rfl rfl 41 rfl dX10_offsets_40 ?_
        refine g_iload_n 1 rfl rfl 42 rfl dX10_offsets_41 ?_
        refine g_iconst 1 43 rfl dX10_offsets_42 (by decide) ?_
        refine p_cVI 0 [.int p0, .int 1] [.ref (wA Ω 0)] (c_X10_of l hO hX M p0 1) dX10_offsets_43 uv_X10_78 rfl yk_X10_of ⟨by decide, by decide⟩ (lm_0 hX).1 (lm_0 hX).2 rfl (Nat.le_of_ble_eq_true rfl) rfl 46 rfl ?_
        intro x4
        refine w_put (lm_0 hX) rfl in_X10 21 (by decide) wf_X10_102 tyX10 tyX10_ok nmX10 rfl rfl rfl rfl 49 rfl dX10_offsets_46 ?_
        intro M5
        refine g_aload_n 0 rfl rfl 50 rfl dX10_offsets_49 ?_
        refine w_getR (lm_0 hX) rfl in_X10 1 (by decide) wf_X10_9 1 rfl 53 rfl dX10_offsets_50 ?_
        refine g_iload_n 1 rfl rfl 54 rfl dX10_offsets_53 ?_
        refine p_cSI [.int p0] [.ref (wA Ω 1)] (c_X10_at l hO M5 p0) dX10_offsets_54 us_X10_63 rfl yk_X10_at ⟨by decide, by decide⟩ (Nat.le_of_ble_eq_true rfl) rfl 57 rfl ?_
        intro x6
        refine g_iconst 1 58 rfl dX10_offsets_57 (by decide) ?_
        refine g_iadd 59 rfl dX10_offsets_58 ?_
        refine g_iload_n 2 rfl rfl 60 rfl dX10_offsets_59 ?_
        refine w_iast (lm_1 hX) 61 rfl dX10_offsets_60 ?_
        intro M7
        refine g_iconst 0 62 rfl dX10_offsets_61 (by decide) ?_
        exact g_iret rfl dX10_offsets_62
      · refine g_iconst 3 38 rfl dX10_offsets_37 (by decide) ?_
        exact g_iret rfl dX10_offsets_38
def fX10_roads (M : Mem) (p0 : Int32) (p1 : Int32) (p2 : Int32) : Option (Int32 × Mem) := clp (fX10_isGroup M p0 p1) (fun x1 => jn (fun (a2 : Unit) => some (1, M)) (fun k3 => if x1 = 0 then (k3 ()) else (clp (fX10_isGroup M p0 p2) (fun x4 => if x4 = 0 then (k3 ()) else (clp (fX10_at M p0) (fun x5 => bnd (x5 + 5) (fun x6 => grd (inb x6 490) (jn (fun (a7 : Int32) => bnd (mset M 0 21 a7) (fun M9 => grd (inb x6 490) (bnd (mset M9 1 x6.toNatClampNeg p1) (fun M10 => grd (inb (x6 + 1) 490) (bnd (mset M10 1 (x6 + 1).toNatClampNeg p2) (fun M11 => some (0, M11))))))) (fun k8 => if 0 ≤ M 1 x6.toNatClampNeg then (grd (inb x6 490) (grd (inb (x6 + 1) 490) (k8 ((10 * (M 1 x6.toNatClampNeg)) + (M 1 (x6 + 1).toNatClampNeg))))) else (k8 (-1)))))))))))
set_option maxRecDepth 100000 in
set_option maxHeartbeats 4000000 in
theorem c_X10_roads {Ω : Wd} (l : Launch) (hO : OkW Ω) (hX : LM Ω)  (M : Mem) (p0 : Int32) (p1 : Int32) (p2 : Int32) : ∀ r, fX10_roads M p0 p1 p2 = some r → Ct l yX10_roads (.code yX10_roads cX10_roads 5 (some .int)) 3 65 Ω [.ref (wA Ω 0), .int p0, .int p1, .int p2] M (cvI r) := by
  refine ofG [(0, .ref (wA Ω 0)), (1, .int p0), (2, .int p1), (3, .int p2)] hO (by decide) rfl (Nat.le_of_ble_eq_true rfl) rfl ?_
  intro p e s m args below meth c
  unfold fX10_roads
  refine g_aload_n 0 rfl rfl 1 rfl dX10_roads_0 ?_
  refine g_iload_n 1 rfl rfl 2 rfl dX10_roads_1 ?_
  refine g_iload_n 2 rfl rfl 3 rfl dX10_roads_2 ?_
  refine p_cVI 0 [.int p0, .int p1] [] (c_X10_isGroup l hO hX M p0 p1) dX10_roads_3 uv_X10_105 rfl yk_X10_isGroup ⟨by decide, by decide⟩ (lm_0 hX).1 (lm_0 hX).2 rfl (Nat.le_of_ble_eq_true rfl) rfl 6 rfl ?_
  intro x1
  refine g_join 18 (fun a2 => []) (fun a2 => []) (fun a2 => M) ?_ ?_
  · intro a2
    refine g_iconst 1 19 rfl dX10_roads_18 (by decide) ?_
    exact g_iret rfl dX10_roads_19
  · intro k3 hk3
    refine g_if_eq 18 (by decide) 9 rfl dX10_roads_6 ?_ ?_
    · refine g_sub [] [] rfl ?_
      exact hk3 ()
    · refine g_aload_n 0 rfl rfl 10 rfl dX10_roads_9 ?_
      refine g_iload_n 1 rfl rfl 11 rfl dX10_roads_10 ?_
      refine g_iload_n 3 rfl rfl 12 rfl dX10_roads_11 ?_
      refine p_cVI 0 [.int p0, .int p2] [] (c_X10_isGroup l hO hX M p0 p2) dX10_roads_12 uv_X10_105 rfl yk_X10_isGroup ⟨by decide, by decide⟩ (lm_0 hX).1 (lm_0 hX).2 rfl (Nat.le_of_ble_eq_true rfl) rfl 15 rfl ?_
      intro x4
      refine g_if_ne 20 (by decide) 18 rfl dX10_roads_15 ?_ ?_
      · refine g_sub [] [] rfl ?_
        exact hk3 ()
      · refine g_iload_n 1 rfl rfl 21 rfl dX10_roads_20 ?_
        refine p_cSI [.int p0] [] (c_X10_at l hO M p0) dX10_roads_21 us_X10_63 rfl yk_X10_at ⟨by decide, by decide⟩ (Nat.le_of_ble_eq_true rfl) rfl 24 rfl ?_
        intro x5
        refine g_iconst 5 25 rfl dX10_roads_24 (by decide) ?_
        refine g_iadd 26 rfl dX10_roads_25 ?_
        refine g_istore (fun x6 => [(4, .int x6), (0, .ref (wA Ω 0)), (1, .int p0), (2, .int p1), (3, .int p2)]) 28 rfl dX10_roads_26 (by decide) (fun _ => rfl) ?_
        intro x6
        refine g_aload_n 1 rfl rfl 29 rfl dX10_roads_28 ?_
        refine g_aload_n 1 rfl rfl 30 rfl dX10_roads_29 ?_
        refine w_getR (lm_0 hX) rfl in_X10 1 (by decide) wf_X10_9 1 rfl 33 rfl dX10_roads_30 ?_
        refine g_iload 0 rfl 35 rfl dX10_roads_33 ?_
        refine w_iald (lm_1 hX) 36 rfl dX10_roads_35 ?_
        refine g_join 63 (fun a7 => [(0, .ref (wA Ω 0)), (2, .int p1), (3, .int p2), (4, .int x6)]) (fun a7 => [.int a7, .ref (wA Ω 0)]) (fun a7 => M) ?_ ?_
        · intro a7
          refine w_put (lm_0 hX) rfl in_X10 21 (by decide) wf_X10_102 tyX10 tyX10_ok nmX10 rfl rfl rfl rfl 66 rfl dX10_roads_63 ?_
          intro M9
          refine g_aload_n 0 rfl rfl 67 rfl dX10_roads_66 ?_
          refine w_getR (lm_0 hX) rfl in_X10 1 (by decide) wf_X10_9 1 rfl 70 rfl dX10_roads_67 ?_
          refine g_iload 3 rfl 72 rfl dX10_roads_70 ?_
          refine g_iload_n 1 rfl rfl 73 rfl dX10_roads_72 ?_
          refine w_iast (lm_1 hX) 74 rfl dX10_roads_73 ?_
          intro M10
          refine g_aload_n 0 rfl rfl 75 rfl dX10_roads_74 ?_
          refine w_getR (lm_0 hX) rfl in_X10 1 (by decide) wf_X10_9 1 rfl 78 rfl dX10_roads_75 ?_
          refine g_iload 3 rfl 80 rfl dX10_roads_78 ?_
          refine g_iconst 1 81 rfl dX10_roads_80 (by decide) ?_
          refine g_iadd 82 rfl dX10_roads_81 ?_
          refine g_iload_n 2 rfl rfl 83 rfl dX10_roads_82 ?_
          refine w_iast (lm_1 hX) 84 rfl dX10_roads_83 ?_
          intro M11
          refine g_iconst 0 85 rfl dX10_roads_84 (by decide) ?_
          exact g_iret rfl dX10_roads_85
        · intro k8 hk8
          refine g_if_ge 43 (by decide) 39 rfl dX10_roads_36 ?_ ?_
          · refine g_bipush 10 45 rfl dX10_roads_43 (by decide) ?_
            refine g_aload_n 1 rfl rfl 46 rfl dX10_roads_45 ?_
            refine w_getR (lm_0 hX) rfl in_X10 1 (by decide) wf_X10_9 1 rfl 49 rfl dX10_roads_46 ?_
            refine g_iload 0 rfl 51 rfl dX10_roads_49 ?_
            refine w_iald (lm_1 hX) 52 rfl dX10_roads_51 ?_
            refine g_imul 53 rfl dX10_roads_52 ?_
            refine g_aload_n 1 rfl rfl 54 rfl dX10_roads_53 ?_
            refine w_getR (lm_0 hX) rfl in_X10 1 (by decide) wf_X10_9 1 rfl 57 rfl dX10_roads_54 ?_
            refine g_iload 0 rfl 59 rfl dX10_roads_57 ?_
            refine g_iconst 1 60 rfl dX10_roads_59 (by decide) ?_
            refine g_iadd 61 rfl dX10_roads_60 ?_
            refine w_iald (lm_1 hX) 62 rfl dX10_roads_61 ?_
            refine g_iadd 63 rfl dX10_roads_62 ?_
            refine g_sub [(0, .ref (wA Ω 0)), (2, .int p1), (3, .int p2), (4, .int x6)] [1, 3, 4, 0] rfl ?_
            exact hk8 ((10 * (M 1 x6.toNatClampNeg)) + (M 1 (x6 + 1).toNatClampNeg))
          · refine g_iconst (-1) 40 rfl dX10_roads_39 (by decide) ?_
            refine g_goto 63 (by decide) dX10_roads_40 ?_
            refine g_sub [(0, .ref (wA Ω 0)), (2, .int p1), (3, .int p2), (4, .int x6)] [1, 3, 4, 0] rfl ?_
            exact hk8 (-1)
def fX10_ends_L1 (k4 : Mem → Option (Int32 × Mem)) (k8 : (Int32 × Mem) → Option (Int32 × Mem)) (a7 : Int32 × Mem) : Option (Int32 × Mem) := if 490 ≤ a7.1 then (k4 a7.2) else (grd (inb a7.1 490) (grd (inb a7.1 490) (bnd (mset a7.2 1 a7.1.toNatClampNeg (a7.2 4 a7.1.toNatClampNeg)) (fun M9 => bnd (a7.1 + 1) (fun x10 => k8 (x10, M9))))))
def fX10_ends (M : Mem) (p0 : Int32) : Option (Int32 × Mem) := if p0 ≤ 0 then (cl (fX10_keeps M) (fun u1 M2 => some (M2 0 21, M2))) else (jn (fun (a3 : Mem) => cl (fX10_raises a3 p0) (fun x5 M6 => some (x5, M6))) (fun k4 => lp (fX10_ends_L1 k4) FU (0, M)))
set_option maxRecDepth 100000 in
set_option maxHeartbeats 4000000 in
theorem c_X10_ends {Ω : Wd} (l : Launch) (hO : OkW Ω) (hX : LM Ω)  (M : Mem) (p0 : Int32) : ∀ r, fX10_ends M p0 = some r → Ct l yX10_ends (.code yX10_ends cX10_ends 3 (some .int)) 1 21 Ω [.ref (wA Ω 0), .int p0] M (cvI r) := by
  refine ofG [(0, .ref (wA Ω 0)), (1, .int p0)] hO (by decide) rfl (Nat.le_of_ble_eq_true rfl) rfl ?_
  intro p e s m args below meth c
  unfold fX10_ends
  refine g_iload_n 1 rfl rfl 1 rfl dX10_ends_0 ?_
  refine g_if_le 37 (by decide) 4 rfl dX10_ends_1 ?_ ?_
  · refine g_aload_n 0 rfl rfl 38 rfl dX10_ends_37 ?_
    refine g_cVV 0 [] [] (c_X10_keeps l hO hX M) dX10_ends_38 uv_X10_60 rfl yk_X10_keeps ⟨by decide, by decide⟩ (lm_0 hX).1 (lm_0 hX).2 rfl (Nat.le_of_ble_eq_true rfl) rfl 41 rfl ?_
    intro u1 M2
    refine g_aload_n 0 rfl rfl 42 rfl dX10_ends_41 ?_
    refine w_get (lm_0 hX) rfl in_X10 21 (by decide) wf_X10_102 rfl 45 rfl dX10_ends_42 ?_
    exact g_iret rfl dX10_ends_45
  · refine g_iconst 0 5 rfl dX10_ends_4 (by decide) ?_
    refine g_istore_nA [(2, .int 0), (0, .ref (wA Ω 0)), (1, .int p0)] rfl 6 rfl dX10_ends_5 (by decide) rfl ?_
    refine g_join 31 (fun a3 => [(0, .ref (wA Ω 0)), (1, .int p0)]) (fun a3 => []) (fun a3 => a3) ?_ ?_
    · intro a3
      refine g_aload_n 0 rfl rfl 32 rfl dX10_ends_31 ?_
      refine g_iload_n 1 rfl rfl 33 rfl dX10_ends_32 ?_
      refine g_cVI 0 [.int p0] [] (c_X10_raises l hO hX a3 p0) dX10_ends_33 uv_X10_53 rfl yk_X10_raises ⟨by decide, by decide⟩ (lm_0 hX).1 (lm_0 hX).2 rfl (Nat.le_of_ble_eq_true rfl) rfl 36 rfl ?_
      intro x5 M6
      exact g_iret rfl dX10_ends_36
    · intro k4 hk4
      refine g_sub [(0, .ref (wA Ω 0)), (1, .int p0), (2, .int 0)] [1, 2, 0] rfl ?_
      refine g_loop 6 (fun a7 => [(0, .ref (wA Ω 0)), (1, .int p0), (2, .int a7.1)]) (fun _ => []) (fun a7 => a7.2) ?_ FU (0, M)
      intro k8 hk8 a7
      unfold fX10_ends_L1
      refine g_iload_n 2 rfl rfl 7 rfl dX10_ends_6 ?_
      refine g_sipush 490 10 rfl dX10_ends_7 (by decide) ?_
      refine g_icmp_ge 31 (by decide) 13 rfl dX10_ends_10 ?_ ?_
      · refine g_sub [(0, .ref (wA Ω 0)), (1, .int p0)] [0, 1] rfl ?_
        exact hk4 a7.2
      · refine g_aload_n 0 rfl rfl 14 rfl dX10_ends_13 ?_
        refine w_getR (lm_0 hX) rfl in_X10 1 (by decide) wf_X10_9 1 rfl 17 rfl dX10_ends_14 ?_
        refine g_iload_n 2 rfl rfl 18 rfl dX10_ends_17 ?_
        refine g_aload_n 0 rfl rfl 19 rfl dX10_ends_18 ?_
        refine w_getR (lm_0 hX) rfl in_X10 6 (by decide) wf_X10_19 4 rfl 22 rfl dX10_ends_19 ?_
        refine g_iload_n 2 rfl rfl 23 rfl dX10_ends_22 ?_
        refine w_iald (lm_4 hX) 24 rfl dX10_ends_23 ?_
        refine w_iast (lm_1 hX) 25 rfl dX10_ends_24 ?_
        intro M9
        refine g_iinc 2 rfl 1 (by decide) (fun x10 => [(2, .int x10), (0, .ref (wA Ω 0)), (1, .int p0)]) 28 rfl dX10_ends_25 (by decide) (fun _ => rfl) ?_
        intro x10
        refine g_goto 6 (by decide) dX10_ends_28 ?_
        refine g_sub [(0, .ref (wA Ω 0)), (1, .int p0), (2, .int x10)] [1, 2, 0] rfl ?_
        exact hk8 (x10, M9)
def fX10_offset (M : Mem) (p0 : Int32) (p1 : Int32) : Option (Int32 × Mem) := cl (fX10_tries M) (fun u1 M2 => cl (fX10_offsets M2 p0 p1) (fun x3 M4 => cl (fX10_ends M4 x3) (fun x5 M6 => some (x5, M6))))
set_option maxRecDepth 100000 in
set_option maxHeartbeats 4000000 in
theorem c_X10_offset {Ω : Wd} (l : Launch) (hO : OkW Ω) (hX : LM Ω)  (M : Mem) (p0 : Int32) (p1 : Int32) : ∀ r, fX10_offset M p0 p1 = some r → Ct l yX10_offset (.code yX10_offset cX10_offset 3 (some .int)) 3 65 Ω [.ref (wA Ω 0), .int p0, .int p1] M (cvI r) := by
  refine ofG [(0, .ref (wA Ω 0)), (1, .int p0), (2, .int p1)] hO (by decide) rfl (Nat.le_of_ble_eq_true rfl) rfl ?_
  intro p e s m args below meth c
  unfold fX10_offset
  refine g_aload_n 0 rfl rfl 1 rfl dX10_offset_0 ?_
  refine g_cVV 0 [] [] (c_X10_tries l hO hX M) dX10_offset_1 uv_X10_109 rfl yk_X10_tries ⟨by decide, by decide⟩ (lm_0 hX).1 (lm_0 hX).2 rfl (Nat.le_of_ble_eq_true rfl) rfl 4 rfl ?_
  intro u1 M2
  refine g_aload_n 0 rfl rfl 5 rfl dX10_offset_4 ?_
  refine g_aload_n 0 rfl rfl 6 rfl dX10_offset_5 ?_
  refine g_iload_n 1 rfl rfl 7 rfl dX10_offset_6 ?_
  refine g_iload_n 2 rfl rfl 8 rfl dX10_offset_7 ?_
  refine g_cVI 0 [.int p0, .int p1] [.ref (wA Ω 0)] (c_X10_offsets l hO hX M2 p0 p1) dX10_offset_8 uv_X10_112 rfl yk_X10_offsets ⟨by decide, by decide⟩ (lm_0 hX).1 (lm_0 hX).2 rfl (Nat.le_of_ble_eq_true rfl) rfl 11 rfl ?_
  intro x3 M4
  refine g_cVI 0 [.int x3] [] (c_X10_ends l hO hX M4 x3) dX10_offset_11 uv_X10_115 rfl yk_X10_ends ⟨by decide, by decide⟩ (lm_0 hX).1 (lm_0 hX).2 rfl (Nat.le_of_ble_eq_true rfl) rfl 14 rfl ?_
  intro x5 M6
  exact g_iret rfl dX10_offset_14
def fX10_road (M : Mem) (p0 : Int32) (p1 : Int32) (p2 : Int32) : Option (Int32 × Mem) := cl (fX10_tries M) (fun u1 M2 => cl (fX10_roads M2 p0 p1 p2) (fun x3 M4 => cl (fX10_ends M4 x3) (fun x5 M6 => some (x5, M6))))
set_option maxRecDepth 100000 in
set_option maxHeartbeats 4000000 in
theorem c_X10_road {Ω : Wd} (l : Launch) (hO : OkW Ω) (hX : LM Ω)  (M : Mem) (p0 : Int32) (p1 : Int32) (p2 : Int32) : ∀ r, fX10_road M p0 p1 p2 = some r → Ct l yX10_road (.code yX10_road cX10_road 4 (some .int)) 4 89 Ω [.ref (wA Ω 0), .int p0, .int p1, .int p2] M (cvI r) := by
  refine ofG [(0, .ref (wA Ω 0)), (1, .int p0), (2, .int p1), (3, .int p2)] hO (by decide) rfl (Nat.le_of_ble_eq_true rfl) rfl ?_
  intro p e s m args below meth c
  unfold fX10_road
  refine g_aload_n 0 rfl rfl 1 rfl dX10_road_0 ?_
  refine g_cVV 0 [] [] (c_X10_tries l hO hX M) dX10_road_1 uv_X10_109 rfl yk_X10_tries ⟨by decide, by decide⟩ (lm_0 hX).1 (lm_0 hX).2 rfl (Nat.le_of_ble_eq_true rfl) rfl 4 rfl ?_
  intro u1 M2
  refine g_aload_n 0 rfl rfl 5 rfl dX10_road_4 ?_
  refine g_aload_n 0 rfl rfl 6 rfl dX10_road_5 ?_
  refine g_iload_n 1 rfl rfl 7 rfl dX10_road_6 ?_
  refine g_iload_n 2 rfl rfl 8 rfl dX10_road_7 ?_
  refine g_iload_n 3 rfl rfl 9 rfl dX10_road_8 ?_
  refine g_cVI 0 [.int p0, .int p1, .int p2] [.ref (wA Ω 0)] (c_X10_roads l hO hX M2 p0 p1 p2) dX10_road_9 uv_X10_118 rfl yk_X10_roads ⟨by decide, by decide⟩ (lm_0 hX).1 (lm_0 hX).2 rfl (Nat.le_of_ble_eq_true rfl) rfl 12 rfl ?_
  intro x3 M4
  refine g_cVI 0 [.int x3] [] (c_X10_ends l hO hX M4 x3) dX10_road_12 uv_X10_115 rfl yk_X10_ends ⟨by decide, by decide⟩ (lm_0 hX).1 (lm_0 hX).2 rfl (Nat.le_of_ble_eq_true rfl) rfl 15 rfl ?_
  intro x5 M6
  exact g_iret rfl dX10_road_15
def fX10_conflicts_L1 (p0 : Int32) (M : Mem) (a1 : Int32 × Int32) (k6 : Int32 → Option Int32) (k9 : (Int32 × Int32) → Option Int32) (a8 : Int32 × Int32) : Option Int32 := clp (fX10_of M p0 2) (fun x10 => if x10 ≤ a8.2 then (k6 a8.1) else (clp (fX10_clear M p0 a1.2 a8.2) (fun x11 => jn (fun (a12 : Int32) => bnd (a8.2 + 1) (fun x14 => k9 (a12, x14))) (fun k13 => if x11 < 0 then (k13 a8.1) else (bnd (a8.1 + 1) (fun x15 => k13 x15))))))
def fX10_conflicts_L2 (p0 : Int32) (M : Mem) (k2 : (Int32 × Int32) → Option Int32) (a1 : Int32 × Int32) : Option Int32 := clp (fX10_of M p0 2) (fun x3 => if x3 ≤ a1.2 then (some a1.1) else (bnd (a1.2 + 1) (fun x4 => jn (fun (a5 : Int32) => bnd (a1.2 + 1) (fun x7 => k2 (a5, x7))) (fun k6 => lp (fX10_conflicts_L1 p0 M a1 k6) FU (a1.1, x4)))))
def fX10_conflicts (M : Mem) (p0 : Int32) : Option Int32 := lp (fX10_conflicts_L2 p0 M) FU (0, 0)
set_option maxRecDepth 100000 in
set_option maxHeartbeats 4000000 in
theorem c_X10_conflicts {Ω : Wd} (l : Launch) (hO : OkW Ω) (hX : LM Ω)  (M : Mem) (p0 : Int32) : ∀ r, fX10_conflicts M p0 = some r → Ct l yX10_conflicts (.code yX10_conflicts cX10_conflicts 5 (some .int)) 2 43 Ω [.ref (wA Ω 0), .int p0] M ((cpI M) r) := by
  refine ofG [(0, .ref (wA Ω 0)), (1, .int p0)] hO (by decide) rfl (Nat.le_of_ble_eq_true rfl) rfl ?_
  intro p e s m args below meth c
  unfold fX10_conflicts
  refine g_iconst 0 1 rfl dX10_conflicts_0 (by decide) ?_
  refine g_istore_nA [(2, .int 0), (0, .ref (wA Ω 0)), (1, .int p0)] rfl 2 rfl dX10_conflicts_1 (by decide) rfl ?_
  refine g_iconst 0 3 rfl dX10_conflicts_2 (by decide) ?_
  refine g_istore_nA [(3, .int 0), (2, .int 0), (0, .ref (wA Ω 0)), (1, .int p0)] rfl 4 rfl dX10_conflicts_3 (by decide) rfl ?_
  refine g_sub [(0, .ref (wA Ω 0)), (1, .int p0), (2, .int 0), (3, .int 0)] [2, 3, 1, 0] rfl ?_
  refine g_loop 4 (fun a1 => [(0, .ref (wA Ω 0)), (1, .int p0), (2, .int a1.1), (3, .int a1.2)]) (fun _ => []) (fun a1 => M) ?_ FU (0, 0)
  intro k2 hk2 a1
  unfold fX10_conflicts_L2
  refine g_iload_n 3 rfl rfl 5 rfl dX10_conflicts_4 ?_
  refine g_aload_n 0 rfl rfl 6 rfl dX10_conflicts_5 ?_
  refine g_iload_n 1 rfl rfl 7 rfl dX10_conflicts_6 ?_
  refine g_iconst 2 8 rfl dX10_conflicts_7 (by decide) ?_
  refine p_cVI 0 [.int p0, .int 2] [.int a1.2] (c_X10_of l hO hX M p0 2) dX10_conflicts_8 uv_X10_78 rfl yk_X10_of ⟨by decide, by decide⟩ (lm_0 hX).1 (lm_0 hX).2 rfl (Nat.le_of_ble_eq_true rfl) rfl 11 rfl ?_
  intro x3
  refine g_icmp_ge 56 (by decide) 14 rfl dX10_conflicts_11 ?_ ?_
  · refine g_iload_n 2 rfl rfl 57 rfl dX10_conflicts_56 ?_
    exact p_iret rfl dX10_conflicts_57
  · refine g_iload_n 3 rfl rfl 15 rfl dX10_conflicts_14 ?_
    refine g_iconst 1 16 rfl dX10_conflicts_15 (by decide) ?_
    refine g_iadd 17 rfl dX10_conflicts_16 ?_
    refine g_istore (fun x4 => [(4, .int x4), (0, .ref (wA Ω 0)), (1, .int p0), (2, .int a1.1), (3, .int a1.2)]) 19 rfl dX10_conflicts_17 (by decide) (fun _ => rfl) ?_
    intro x4
    refine g_join 50 (fun a5 => [(0, .ref (wA Ω 0)), (1, .int p0), (2, .int a5), (3, .int a1.2)]) (fun a5 => []) (fun a5 => M) ?_ ?_
    · intro a5
      refine g_iinc 3 rfl 1 (by decide) (fun x7 => [(3, .int x7), (0, .ref (wA Ω 0)), (1, .int p0), (2, .int a5)]) 53 rfl dX10_conflicts_50 (by decide) (fun _ => rfl) ?_
      intro x7
      refine g_goto 4 (by decide) dX10_conflicts_53 ?_
      refine g_sub [(0, .ref (wA Ω 0)), (1, .int p0), (2, .int a5), (3, .int x7)] [1, 2, 3, 0] rfl ?_
      exact hk2 (a5, x7)
    · intro k6 hk6
      refine g_sub [(0, .ref (wA Ω 0)), (1, .int p0), (2, .int a1.1), (3, .int a1.2), (4, .int x4)] [1, 2, 3, 4, 0] rfl ?_
      refine g_loop 19 (fun a8 => [(0, .ref (wA Ω 0)), (1, .int p0), (2, .int a8.1), (3, .int a1.2), (4, .int a8.2)]) (fun _ => []) (fun a8 => M) ?_ FU (a1.1, x4)
      intro k9 hk9 a8
      unfold fX10_conflicts_L1
      refine g_iload 4 rfl 21 rfl dX10_conflicts_19 ?_
      refine g_aload_n 0 rfl rfl 22 rfl dX10_conflicts_21 ?_
      refine g_iload_n 1 rfl rfl 23 rfl dX10_conflicts_22 ?_
      refine g_iconst 2 24 rfl dX10_conflicts_23 (by decide) ?_
      refine p_cVI 0 [.int p0, .int 2] [.int a8.2] (c_X10_of l hO hX M p0 2) dX10_conflicts_24 uv_X10_78 rfl yk_X10_of ⟨by decide, by decide⟩ (lm_0 hX).1 (lm_0 hX).2 rfl (Nat.le_of_ble_eq_true rfl) rfl 27 rfl ?_
      intro x10
      refine g_icmp_ge 50 (by decide) 30 rfl dX10_conflicts_27 ?_ ?_
      · refine g_sub [(0, .ref (wA Ω 0)), (1, .int p0), (2, .int a8.1), (3, .int a1.2)] [0, 1, 2, 3] rfl ?_
        exact hk6 a8.1
      · refine g_aload_n 0 rfl rfl 31 rfl dX10_conflicts_30 ?_
        refine g_iload_n 1 rfl rfl 32 rfl dX10_conflicts_31 ?_
        refine g_iload_n 3 rfl rfl 33 rfl dX10_conflicts_32 ?_
        refine g_iload 4 rfl 35 rfl dX10_conflicts_33 ?_
        refine p_cVI 0 [.int p0, .int a1.2, .int a8.2] [] (c_X10_clear l hO hX M p0 a1.2 a8.2) dX10_conflicts_35 uv_X10_121 rfl yk_X10_clear ⟨by decide, by decide⟩ (lm_0 hX).1 (lm_0 hX).2 rfl (Nat.le_of_ble_eq_true rfl) rfl 38 rfl ?_
        intro x11
        refine g_join 44 (fun a12 => [(0, .ref (wA Ω 0)), (1, .int p0), (2, .int a12), (3, .int a1.2), (4, .int a8.2)]) (fun a12 => []) (fun a12 => M) ?_ ?_
        · intro a12
          refine g_iinc 4 rfl 1 (by decide) (fun x14 => [(4, .int x14), (0, .ref (wA Ω 0)), (1, .int p0), (2, .int a12), (3, .int a1.2)]) 47 rfl dX10_conflicts_44 (by decide) (fun _ => rfl) ?_
          intro x14
          refine g_goto 19 (by decide) dX10_conflicts_47 ?_
          refine g_sub [(0, .ref (wA Ω 0)), (1, .int p0), (2, .int a12), (3, .int a1.2), (4, .int x14)] [1, 2, 3, 4, 0] rfl ?_
          exact hk9 (a12, x14)
        · intro k13 hk13
          refine g_if_lt 44 (by decide) 41 rfl dX10_conflicts_38 ?_ ?_
          · exact hk13 a8.1
          · refine g_iinc 2 rfl 1 (by decide) (fun x15 => [(2, .int x15), (0, .ref (wA Ω 0)), (1, .int p0), (3, .int a1.2), (4, .int a8.2)]) 44 rfl dX10_conflicts_41 (by decide) (fun _ => rfl) ?_
            intro x15
            refine g_sub [(0, .ref (wA Ω 0)), (1, .int p0), (2, .int x15), (3, .int a1.2), (4, .int a8.2)] [1, 2, 0, 3, 4] rfl ?_
            exact hk13 x15
def fX10_group_L1 (x12 : Int32) (k14 : Mem → Option (Int32 × Mem)) (k23 : (Int32 × Mem) → Option (Int32 × Mem)) (a22 : Int32 × Mem) : Option (Int32 × Mem) := if 13 ≤ a22.1 then (k14 a22.2) else (jn (fun (a24 : Int32) => grd (inb (x12 + a22.1) 490) (bnd (mset a22.2 1 (x12 + a22.1).toNatClampNeg a24) (fun M26 => bnd (a22.1 + 1) (fun x27 => k23 (x27, M26))))) (fun k25 => jn (fun (a28 : Unit) => k25 (-1)) (fun k29 => if a22.1 = 4 then (k29 ()) else (clp (fX10_in a22.2 a22.1 6 8) (fun x30 => if x30 = 0 then (k25 0) else (k29 ()))))))
def fX10_group (M : Mem) (p0 : Int32) (p1 : Int32) (p2 : Int32) (p3 : Int32) : Option (Int32 × Mem) := bnd (mset M 0 0 0) (fun M1 => clp (fX10_isJunction M1 p0) (fun x2 => if x2 = 0 then (cl (fX10_raises M1 1) (fun x33 M34 => some (x33, M34))) else (clp (fX10_in M1 p1 0 2) (fun x3 => jn (fun (a4 : Unit) => cl (fX10_raises M1 2) (fun x6 M7 => some (x6, M7))) (fun k5 => if x3 = 0 then (k5 ()) else (clp (fX10_in M1 p2 4 30) (fun x8 => if x8 = 0 then (k5 ()) else (clp (fX10_of M1 p0 2) (fun x9 => if x9 = 6 then (cl (fX10_raises M1 3) (fun x31 M32 => some (x31, M32))) else (cl (fX10_changes M1) (fun u10 M11 => clp (fX10_groupAt M11 p0 x9) (fun x12 => jn (fun (a13 : Mem) => grd (inb x12 490) (bnd (mset a13 1 x12.toNatClampNeg p1) (fun M15 => grd (inb (x12 + 1) 490) (bnd (mset M15 1 (x12 + 1).toNatClampNeg p2) (fun M16 => jn (fun (a17 : Int32) => grd (inb (x12 + 2) 490) (bnd (mset M16 1 (x12 + 2).toNatClampNeg a17) (fun M19 => clp (fX10_at M19 p0) (fun x20 => grd (inb (x20 + 2) 490) (grd (inb (x20 + 2) 490) (bnd (mset M19 1 (x20 + 2).toNatClampNeg ((M19 1 (x20 + 2).toNatClampNeg) + 1)) (fun M21 => some (x9, M21)))))))) (fun k18 => if p3 = 0 then (k18 0) else (k18 1))))))) (fun k14 => lp (fX10_group_L1 x12 k14) FU (0, M11))))))))))))))
set_option maxRecDepth 100000 in
set_option maxHeartbeats 4000000 in
theorem c_X10_group {Ω : Wd} (l : Launch) (hO : OkW Ω) (hX : LM Ω)  (M : Mem) (p0 : Int32) (p1 : Int32) (p2 : Int32) (p3 : Int32) : ∀ r, fX10_group M p0 p1 p2 p3 = some r → Ct l yX10_group (.code yX10_group cX10_group 8 (some .int)) 2 43 Ω [.ref (wA Ω 0), .int p0, .int p1, .int p2, .int p3] M (cvI r) := by
  refine ofG [(0, .ref (wA Ω 0)), (1, .int p0), (2, .int p1), (3, .int p2), (4, .int p3)] hO (by decide) rfl (Nat.le_of_ble_eq_true rfl) rfl ?_
  intro p e s m args below meth c
  unfold fX10_group
  refine g_aload_n 0 rfl rfl 1 rfl dX10_group_0 ?_
  refine g_iconst 0 2 rfl dX10_group_1 (by decide) ?_
  refine w_put (lm_0 hX) rfl in_X10 0 (by decide) wf_X10_47 tyX10 tyX10_ok nmX10 rfl rfl rfl rfl 5 rfl dX10_group_2 ?_
  intro M1
  refine g_aload_n 0 rfl rfl 6 rfl dX10_group_5 ?_
  refine g_iload_n 1 rfl rfl 7 rfl dX10_group_6 ?_
  refine p_cVI 0 [.int p0] [] (c_X10_isJunction l hO hX M1 p0) dX10_group_7 uv_X10_74 rfl yk_X10_isJunction ⟨by decide, by decide⟩ (lm_0 hX).1 (lm_0 hX).2 rfl (Nat.le_of_ble_eq_true rfl) rfl 10 rfl ?_
  intro x2
  refine g_if_ne 19 (by decide) 13 rfl dX10_group_10 ?_ ?_
  · refine g_aload_n 0 rfl rfl 14 rfl dX10_group_13 ?_
    refine g_iconst 1 15 rfl dX10_group_14 (by decide) ?_
    refine g_cVI 0 [.int 1] [] (c_X10_raises l hO hX M1 1) dX10_group_15 uv_X10_53 rfl yk_X10_raises ⟨by decide, by decide⟩ (lm_0 hX).1 (lm_0 hX).2 rfl (Nat.le_of_ble_eq_true rfl) rfl 18 rfl ?_
    intro x33 M34
    exact g_iret rfl dX10_group_18
  · refine g_iload_n 2 rfl rfl 20 rfl dX10_group_19 ?_
    refine g_iconst 0 21 rfl dX10_group_20 (by decide) ?_
    refine g_iconst 2 22 rfl dX10_group_21 (by decide) ?_
    refine p_cSI [.int p1, .int 0, .int 2] [] (c_X10_in l hO M1 p1 0 2) dX10_group_22 us_X10_70 rfl yk_X10_in ⟨by decide, by decide⟩ (Nat.le_of_ble_eq_true rfl) rfl 25 rfl ?_
    intro x3
    refine g_join 38 (fun a4 => [(0, .ref (wA Ω 0))]) (fun a4 => []) (fun a4 => M1) ?_ ?_
    · intro a4
      refine g_aload_n 0 rfl rfl 39 rfl dX10_group_38 ?_
      refine g_iconst 2 40 rfl dX10_group_39 (by decide) ?_
      refine g_cVI 0 [.int 2] [] (c_X10_raises l hO hX M1 2) dX10_group_40 uv_X10_53 rfl yk_X10_raises ⟨by decide, by decide⟩ (lm_0 hX).1 (lm_0 hX).2 rfl (Nat.le_of_ble_eq_true rfl) rfl 43 rfl ?_
      intro x6 M7
      exact g_iret rfl dX10_group_43
    · intro k5 hk5
      refine g_if_eq 38 (by decide) 28 rfl dX10_group_25 ?_ ?_
      · refine g_sub [(0, .ref (wA Ω 0))] [0] rfl ?_
        exact hk5 ()
      · refine g_iload_n 3 rfl rfl 29 rfl dX10_group_28 ?_
        refine g_iconst 4 30 rfl dX10_group_29 (by decide) ?_
        refine g_bipush 30 32 rfl dX10_group_30 (by decide) ?_
        refine p_cSI [.int p2, .int 4, .int 30] [] (c_X10_in l hO M1 p2 4 30) dX10_group_32 us_X10_70 rfl yk_X10_in ⟨by decide, by decide⟩ (Nat.le_of_ble_eq_true rfl) rfl 35 rfl ?_
        intro x8
        refine g_if_ne 44 (by decide) 38 rfl dX10_group_35 ?_ ?_
        · refine g_sub [(0, .ref (wA Ω 0))] [0] rfl ?_
          exact hk5 ()
        · refine g_aload_n 0 rfl rfl 45 rfl dX10_group_44 ?_
          refine g_iload_n 1 rfl rfl 46 rfl dX10_group_45 ?_
          refine g_iconst 2 47 rfl dX10_group_46 (by decide) ?_
          refine p_cVI 0 [.int p0, .int 2] [] (c_X10_of l hO hX M1 p0 2) dX10_group_47 uv_X10_78 rfl yk_X10_of ⟨by decide, by decide⟩ (lm_0 hX).1 (lm_0 hX).2 rfl (Nat.le_of_ble_eq_true rfl) rfl 50 rfl ?_
          intro x9
          refine g_istoreA [(5, .int x9), (0, .ref (wA Ω 0)), (1, .int p0), (2, .int p1), (3, .int p2), (4, .int p3)] 52 rfl dX10_group_50 (by decide) rfl ?_
          refine g_iload 0 rfl 54 rfl dX10_group_52 ?_
          refine g_bipush 6 56 rfl dX10_group_54 (by decide) ?_
          refine g_icmp_ne 65 (by decide) 59 rfl dX10_group_56 ?_ ?_
          · refine g_aload_n 1 rfl rfl 60 rfl dX10_group_59 ?_
            refine g_iconst 3 61 rfl dX10_group_60 (by decide) ?_
            refine g_cVI 0 [.int 3] [] (c_X10_raises l hO hX M1 3) dX10_group_61 uv_X10_53 rfl yk_X10_raises ⟨by decide, by decide⟩ (lm_0 hX).1 (lm_0 hX).2 rfl (Nat.le_of_ble_eq_true rfl) rfl 64 rfl ?_
            intro x31 M32
            exact g_iret rfl dX10_group_64
          · refine g_aload_n 1 rfl rfl 66 rfl dX10_group_65 ?_
            refine g_cVV 0 [] [] (c_X10_changes l hO hX M1) dX10_group_66 uv_X10_99 rfl yk_X10_changes ⟨by decide, by decide⟩ (lm_0 hX).1 (lm_0 hX).2 rfl (Nat.le_of_ble_eq_true rfl) rfl 69 rfl ?_
            intro u10 M11
            refine g_iload_n 2 rfl rfl 70 rfl dX10_group_69 ?_
            refine g_iload 0 rfl 72 rfl dX10_group_70 ?_
            refine p_cSI [.int p0, .int x9] [] (c_X10_groupAt l hO M11 p0 x9) dX10_group_72 us_X10_66 rfl yk_X10_groupAt ⟨by decide, by decide⟩ (Nat.le_of_ble_eq_true rfl) rfl 75 rfl ?_
            intro x12
            refine g_istoreA [(6, .int x12), (5, .int x9), (0, .ref (wA Ω 0)), (1, .int p0), (2, .int p1), (3, .int p2), (4, .int p3)] 77 rfl dX10_group_75 (by decide) rfl ?_
            refine g_iconst 0 78 rfl dX10_group_77 (by decide) ?_
            refine g_istoreA [(7, .int 0), (6, .int x12), (5, .int x9), (0, .ref (wA Ω 0)), (1, .int p0), (2, .int p1), (3, .int p2), (4, .int p3)] 80 rfl dX10_group_78 (by decide) rfl ?_
            refine g_join 126 (fun a13 => [(0, .ref (wA Ω 0)), (1, .int p0), (2, .int p1), (3, .int p2), (4, .int p3), (5, .int x9), (6, .int x12)]) (fun a13 => []) (fun a13 => a13) ?_ ?_
            · intro a13
              refine g_aload_n 0 rfl rfl 127 rfl dX10_group_126 ?_
              refine w_getR (lm_0 hX) rfl in_X10 1 (by decide) wf_X10_9 1 rfl 130 rfl dX10_group_127 ?_
              refine g_iload 6 rfl 132 rfl dX10_group_130 ?_
              refine g_iload_n 2 rfl rfl 133 rfl dX10_group_132 ?_
              refine w_iast (lm_1 hX) 134 rfl dX10_group_133 ?_
              intro M15
              refine g_aload_n 0 rfl rfl 135 rfl dX10_group_134 ?_
              refine w_getR (lm_0 hX) rfl in_X10 1 (by decide) wf_X10_9 1 rfl 138 rfl dX10_group_135 ?_
              refine g_iload 6 rfl 140 rfl dX10_group_138 ?_
              refine g_iconst 1 141 rfl dX10_group_140 (by decide) ?_
              refine g_iadd 142 rfl dX10_group_141 ?_
              refine g_iload_n 3 rfl rfl 143 rfl dX10_group_142 ?_
              refine w_iast (lm_1 hX) 144 rfl dX10_group_143 ?_
              intro M16
              refine g_aload_n 0 rfl rfl 145 rfl dX10_group_144 ?_
              refine w_getR (lm_0 hX) rfl in_X10 1 (by decide) wf_X10_9 1 rfl 148 rfl dX10_group_145 ?_
              refine g_iload 6 rfl 150 rfl dX10_group_148 ?_
              refine g_iconst 2 151 rfl dX10_group_150 (by decide) ?_
              refine g_iadd 152 rfl dX10_group_151 ?_
              refine g_iload 4 rfl 154 rfl dX10_group_152 ?_
              refine g_join 162 (fun a17 => [(0, .ref (wA Ω 0)), (1, .int p0), (5, .int x9)]) (fun a17 => [.int a17, .int (x12 + 2), .ref (wA Ω 1)]) (fun a17 => M16) ?_ ?_
              · intro a17
                refine w_iast (lm_1 hX) 163 rfl dX10_group_162 ?_
                intro M19
                refine g_aload_n 0 rfl rfl 164 rfl dX10_group_163 ?_
                refine w_getR (lm_0 hX) rfl in_X10 1 (by decide) wf_X10_9 1 rfl 167 rfl dX10_group_164 ?_
                refine g_iload_n 1 rfl rfl 168 rfl dX10_group_167 ?_
                refine p_cSI [.int p0] [.ref (wA Ω 1)] (c_X10_at l hO M19 p0) dX10_group_168 us_X10_63 rfl yk_X10_at ⟨by decide, by decide⟩ (Nat.le_of_ble_eq_true rfl) rfl 171 rfl ?_
                intro x20
                refine g_iconst 2 172 rfl dX10_group_171 (by decide) ?_
                refine g_iadd 173 rfl dX10_group_172 ?_
                refine g_dup2 174 rfl dX10_group_173 rfl rfl ?_
                refine w_iald (lm_1 hX) 175 rfl dX10_group_174 ?_
                refine g_iconst 1 176 rfl dX10_group_175 (by decide) ?_
                refine g_iadd 177 rfl dX10_group_176 ?_
                refine w_iast (lm_1 hX) 178 rfl dX10_group_177 ?_
                intro M21
                refine g_iload 2 rfl 180 rfl dX10_group_178 ?_
                exact g_iret rfl dX10_group_180
              · intro k18 hk18
                refine g_if_eq 161 (by decide) 157 rfl dX10_group_154 ?_ ?_
                · refine g_iconst 0 162 rfl dX10_group_161 (by decide) ?_
                  refine g_sub [(0, .ref (wA Ω 0)), (1, .int p0), (5, .int x9)] [0, 1, 5] rfl ?_
                  exact hk18 0
                · refine g_iconst 1 158 rfl dX10_group_157 (by decide) ?_
                  refine g_goto 162 (by decide) dX10_group_158 ?_
                  refine g_sub [(0, .ref (wA Ω 0)), (1, .int p0), (5, .int x9)] [0, 1, 5] rfl ?_
                  exact hk18 1
            · intro k14 hk14
              refine g_sub [(0, .ref (wA Ω 0)), (1, .int p0), (2, .int p1), (3, .int p2), (4, .int p3), (5, .int x9), (6, .int x12), (7, .int 0)] [3, 4, 5, 6, 7, 2, 1, 0] rfl ?_
              refine g_loop 80 (fun a22 => [(0, .ref (wA Ω 0)), (1, .int p0), (2, .int p1), (3, .int p2), (4, .int p3), (5, .int x9), (6, .int x12), (7, .int a22.1)]) (fun _ => []) (fun a22 => a22.2) ?_ FU (0, M11)
              intro k23 hk23 a22
              unfold fX10_group_L1
              refine g_iload 7 rfl 82 rfl dX10_group_80 ?_
              refine g_bipush 13 84 rfl dX10_group_82 (by decide) ?_
              refine g_icmp_ge 126 (by decide) 87 rfl dX10_group_84 ?_ ?_
              · refine g_sub [(0, .ref (wA Ω 0)), (1, .int p0), (2, .int p1), (3, .int p2), (4, .int p3), (5, .int x9), (6, .int x12)] [0, 1, 2, 3, 4, 5, 6] rfl ?_
                exact hk14 a22.2
              · refine g_aload_n 0 rfl rfl 88 rfl dX10_group_87 ?_
                refine w_getR (lm_0 hX) rfl in_X10 1 (by decide) wf_X10_9 1 rfl 91 rfl dX10_group_88 ?_
                refine g_iload 6 rfl 93 rfl dX10_group_91 ?_
                refine g_iload 7 rfl 95 rfl dX10_group_93 ?_
                refine g_iadd 96 rfl dX10_group_95 ?_
                refine g_iload 7 rfl 98 rfl dX10_group_96 ?_
                refine g_iconst 4 99 rfl dX10_group_98 (by decide) ?_
                refine g_join 119 (fun a24 => [(0, .ref (wA Ω 0)), (1, .int p0), (2, .int p1), (3, .int p2), (4, .int p3), (5, .int x9), (6, .int x12), (7, .int a22.1)]) (fun a24 => [.int a24, .int (x12 + a22.1), .ref (wA Ω 1)]) (fun a24 => a22.2) ?_ ?_
                · intro a24
                  refine w_iast (lm_1 hX) 120 rfl dX10_group_119 ?_
                  intro M26
                  refine g_iinc 7 rfl 1 (by decide) (fun x27 => [(7, .int x27), (0, .ref (wA Ω 0)), (1, .int p0), (2, .int p1), (3, .int p2), (4, .int p3), (5, .int x9), (6, .int x12)]) 123 rfl dX10_group_120 (by decide) (fun _ => rfl) ?_
                  intro x27
                  refine g_goto 80 (by decide) dX10_group_123 ?_
                  refine g_sub [(0, .ref (wA Ω 0)), (1, .int p0), (2, .int p1), (3, .int p2), (4, .int p3), (5, .int x9), (6, .int x12), (7, .int x27)] [1, 2, 3, 4, 5, 6, 7, 0] rfl ?_
                  exact hk23 (x27, M26)
                · intro k25 hk25
                  refine g_join 114 (fun a28 => [(0, .ref (wA Ω 0)), (1, .int p0), (2, .int p1), (3, .int p2), (4, .int p3), (5, .int x9), (6, .int x12), (7, .int a22.1)]) (fun a28 => [.int (x12 + a22.1), .ref (wA Ω 1)]) (fun a28 => a22.2) ?_ ?_
                  · intro a28
                    refine g_iconst (-1) 115 rfl dX10_group_114 (by decide) ?_
                    refine g_goto 119 (by decide) dX10_group_115 ?_
                    exact hk25 (-1)
                  · intro k29 hk29
                    refine g_icmp_eq 114 (by decide) 102 rfl dX10_group_99 ?_ ?_
                    · exact hk29 ()
                    · refine g_iload 7 rfl 104 rfl dX10_group_102 ?_
                      refine g_bipush 6 106 rfl dX10_group_104 (by decide) ?_
                      refine g_bipush 8 108 rfl dX10_group_106 (by decide) ?_
                      refine p_cSI [.int a22.1, .int 6, .int 8] [.int (x12 + a22.1), .ref (wA Ω 1)] (c_X10_in l hO a22.2 a22.1 6 8) dX10_group_108 us_X10_70 rfl yk_X10_in ⟨by decide, by decide⟩ (Nat.le_of_ble_eq_true rfl) rfl 111 rfl ?_
                      intro x30
                      refine g_if_eq 118 (by decide) 114 rfl dX10_group_111 ?_ ?_
                      · refine g_iconst 0 119 rfl dX10_group_118 (by decide) ?_
                        exact hk25 0
                      · exact hk29 ()
def fX10_heads_L1 (p0 : Int32) (p1 : Int32) (M : Mem) (k2 : (Int32 × Int32) → Option Int32) (a1 : Int32 × Int32) : Option Int32 := if 3 ≤ a1.2 then (some a1.1) else (clp (fX10_groupOf M p0 p1 (6 + a1.2)) (fun x3 => jn (fun (a4 : Int32) => bnd (a1.2 + 1) (fun x6 => k2 (a4, x6))) (fun k5 => if x3 < 0 then (k5 a1.1) else (bnd (a1.1 + 1) (fun x7 => k5 x7)))))
def fX10_heads (M : Mem) (p0 : Int32) (p1 : Int32) : Option Int32 := lp (fX10_heads_L1 p0 p1 M) FU (0, 0)
set_option maxRecDepth 100000 in
set_option maxHeartbeats 4000000 in
theorem c_X10_heads {Ω : Wd} (l : Launch) (hO : OkW Ω) (hX : LM Ω)  (M : Mem) (p0 : Int32) (p1 : Int32) : ∀ r, fX10_heads M p0 p1 = some r → Ct l yX10_heads (.code yX10_heads cX10_heads 5 (some .int)) 2 44 Ω [.ref (wA Ω 0), .int p0, .int p1] M ((cpI M) r) := by
  refine ofG [(0, .ref (wA Ω 0)), (1, .int p0), (2, .int p1)] hO (by decide) rfl (Nat.le_of_ble_eq_true rfl) rfl ?_
  intro p e s m args below meth c
  unfold fX10_heads
  refine g_iconst 0 1 rfl dX10_heads_0 (by decide) ?_
  refine g_istore_nA [(3, .int 0), (0, .ref (wA Ω 0)), (1, .int p0), (2, .int p1)] rfl 2 rfl dX10_heads_1 (by decide) rfl ?_
  refine g_iconst 0 3 rfl dX10_heads_2 (by decide) ?_
  refine g_istoreA [(4, .int 0), (3, .int 0), (0, .ref (wA Ω 0)), (1, .int p0), (2, .int p1)] 5 rfl dX10_heads_3 (by decide) rfl ?_
  refine g_sub [(0, .ref (wA Ω 0)), (1, .int p0), (2, .int p1), (3, .int 0), (4, .int 0)] [2, 3, 4, 1, 0] rfl ?_
  refine g_loop 5 (fun a1 => [(0, .ref (wA Ω 0)), (1, .int p0), (2, .int p1), (3, .int a1.1), (4, .int a1.2)]) (fun _ => []) (fun a1 => M) ?_ FU (0, 0)
  intro k2 hk2 a1
  unfold fX10_heads_L1
  refine g_iload 4 rfl 7 rfl dX10_heads_5 ?_
  refine g_iconst 3 8 rfl dX10_heads_7 (by decide) ?_
  refine g_icmp_ge 34 (by decide) 11 rfl dX10_heads_8 ?_ ?_
  · refine g_iload_n 3 rfl rfl 35 rfl dX10_heads_34 ?_
    exact p_iret rfl dX10_heads_35
  · refine g_aload_n 0 rfl rfl 12 rfl dX10_heads_11 ?_
    refine g_iload_n 1 rfl rfl 13 rfl dX10_heads_12 ?_
    refine g_iload_n 2 rfl rfl 14 rfl dX10_heads_13 ?_
    refine g_bipush 6 16 rfl dX10_heads_14 (by decide) ?_
    refine g_iload 4 rfl 18 rfl dX10_heads_16 ?_
    refine g_iadd 19 rfl dX10_heads_18 ?_
    refine p_cVI 0 [.int p0, .int p1, .int (6 + a1.2)] [] (c_X10_groupOf l hO hX M p0 p1 (6 + a1.2)) dX10_heads_19 uv_X10_89 rfl yk_X10_groupOf ⟨by decide, by decide⟩ (lm_0 hX).1 (lm_0 hX).2 rfl (Nat.le_of_ble_eq_true rfl) rfl 22 rfl ?_
    intro x3
    refine g_join 28 (fun a4 => [(0, .ref (wA Ω 0)), (1, .int p0), (2, .int p1), (3, .int a4), (4, .int a1.2)]) (fun a4 => []) (fun a4 => M) ?_ ?_
    · intro a4
      refine g_iinc 4 rfl 1 (by decide) (fun x6 => [(4, .int x6), (0, .ref (wA Ω 0)), (1, .int p0), (2, .int p1), (3, .int a4)]) 31 rfl dX10_heads_28 (by decide) (fun _ => rfl) ?_
      intro x6
      refine g_goto 5 (by decide) dX10_heads_31 ?_
      refine g_sub [(0, .ref (wA Ω 0)), (1, .int p0), (2, .int p1), (3, .int a4), (4, .int x6)] [1, 2, 3, 4, 0] rfl ?_
      exact hk2 (a4, x6)
    · intro k5 hk5
      refine g_if_lt 28 (by decide) 25 rfl dX10_heads_22 ?_ ?_
      · exact hk5 a1.1
      · refine g_iinc 3 rfl 1 (by decide) (fun x7 => [(3, .int x7), (0, .ref (wA Ω 0)), (1, .int p0), (2, .int p1), (4, .int a1.2)]) 28 rfl dX10_heads_25 (by decide) (fun _ => rfl) ?_
        intro x7
        refine g_sub [(0, .ref (wA Ω 0)), (1, .int p0), (2, .int p1), (3, .int x7), (4, .int a1.2)] [1, 2, 3, 0, 4] rfl ?_
        exact hk5 x7
def fX10_groupTold_L1 (p0 : Int32) (p1 : Int32) (M1 : Mem) (k9 : (Int32 × Int32) → Option (Int32 × Mem)) (a8 : Int32 × Int32) : Option (Int32 × Mem) := clp (fX10_of M1 p0 2) (fun x10 => if x10 ≤ a8.2 then (some (a8.1, M1)) else (clp (fX10_clear M1 p0 p1 a8.2) (fun x11 => jn (fun (a12 : Int32) => bnd (a8.2 + 1) (fun x14 => k9 (a12, x14))) (fun k13 => if x11 < 0 then (k13 a8.1) else (bnd (a8.1 ||| (1 <<< (a8.2 &&& 31))) (fun x15 => k13 x15))))))
def fX10_groupTold (M : Mem) (p0 : Int32) (p1 : Int32) (p2 : Int32) : Option (Int32 × Mem) := bnd (mset M 0 0 0) (fun M1 => clp (fX10_isGroup M1 p0 p1) (fun x2 => if x2 = 0 then (cl (fX10_raises M1 1) (fun x19 M20 => some (x19, M20))) else (clp (fX10_in M1 p2 0 7) (fun x3 => if x3 = 0 then (cl (fX10_raises M1 2) (fun x17 M18 => some (x17, M18))) else (if 3 ≤ p2 then (if p2 = 3 then (lp (fX10_groupTold_L1 p0 p1 M1) FU (0, 0)) else (jn (fun (a4 : Int32) => some (a4, M1)) (fun k5 => if p2 = 7 then (clp (fX10_heads M1 p0 p1) (fun x7 => k5 x7)) else (clp (fX10_groupOf M1 p0 p1 (p2 - 1)) (fun x6 => k5 x6))))) else (clp (fX10_groupOf M1 p0 p1 p2) (fun x16 => some (x16, M1))))))))
set_option maxRecDepth 100000 in
set_option maxHeartbeats 4000000 in
theorem c_X10_groupTold {Ω : Wd} (l : Launch) (hO : OkW Ω) (hX : LM Ω)  (M : Mem) (p0 : Int32) (p1 : Int32) (p2 : Int32) : ∀ r, fX10_groupTold M p0 p1 p2 = some r → Ct l yX10_groupTold (.code yX10_groupTold cX10_groupTold 6 (some .int)) 3 68 Ω [.ref (wA Ω 0), .int p0, .int p1, .int p2] M (cvI r) := by
  refine ofG [(0, .ref (wA Ω 0)), (1, .int p0), (2, .int p1), (3, .int p2)] hO (by decide) rfl (Nat.le_of_ble_eq_true rfl) rfl ?_
  intro p e s m args below meth c
  unfold fX10_groupTold
  refine g_aload_n 0 rfl rfl 1 rfl dX10_groupTold_0 ?_
  refine g_iconst 0 2 rfl dX10_groupTold_1 (by decide) ?_
  refine w_put (lm_0 hX) rfl in_X10 0 (by decide) wf_X10_47 tyX10 tyX10_ok nmX10 rfl rfl rfl rfl 5 rfl dX10_groupTold_2 ?_
  intro M1
  refine g_aload_n 0 rfl rfl 6 rfl dX10_groupTold_5 ?_
  refine g_iload_n 1 rfl rfl 7 rfl dX10_groupTold_6 ?_
  refine g_iload_n 2 rfl rfl 8 rfl dX10_groupTold_7 ?_
  refine p_cVI 0 [.int p0, .int p1] [] (c_X10_isGroup l hO hX M1 p0 p1) dX10_groupTold_8 uv_X10_105 rfl yk_X10_isGroup ⟨by decide, by decide⟩ (lm_0 hX).1 (lm_0 hX).2 rfl (Nat.le_of_ble_eq_true rfl) rfl 11 rfl ?_
  intro x2
  refine g_if_ne 20 (by decide) 14 rfl dX10_groupTold_11 ?_ ?_
  · refine g_aload_n 0 rfl rfl 15 rfl dX10_groupTold_14 ?_
    refine g_iconst 1 16 rfl dX10_groupTold_15 (by decide) ?_
    refine g_cVI 0 [.int 1] [] (c_X10_raises l hO hX M1 1) dX10_groupTold_16 uv_X10_53 rfl yk_X10_raises ⟨by decide, by decide⟩ (lm_0 hX).1 (lm_0 hX).2 rfl (Nat.le_of_ble_eq_true rfl) rfl 19 rfl ?_
    intro x19 M20
    exact g_iret rfl dX10_groupTold_19
  · refine g_iload_n 3 rfl rfl 21 rfl dX10_groupTold_20 ?_
    refine g_iconst 0 22 rfl dX10_groupTold_21 (by decide) ?_
    refine g_bipush 7 24 rfl dX10_groupTold_22 (by decide) ?_
    refine p_cSI [.int p2, .int 0, .int 7] [] (c_X10_in l hO M1 p2 0 7) dX10_groupTold_24 us_X10_70 rfl yk_X10_in ⟨by decide, by decide⟩ (Nat.le_of_ble_eq_true rfl) rfl 27 rfl ?_
    intro x3
    refine g_if_ne 36 (by decide) 30 rfl dX10_groupTold_27 ?_ ?_
    · refine g_aload_n 0 rfl rfl 31 rfl dX10_groupTold_30 ?_
      refine g_iconst 2 32 rfl dX10_groupTold_31 (by decide) ?_
      refine g_cVI 0 [.int 2] [] (c_X10_raises l hO hX M1 2) dX10_groupTold_32 uv_X10_53 rfl yk_X10_raises ⟨by decide, by decide⟩ (lm_0 hX).1 (lm_0 hX).2 rfl (Nat.le_of_ble_eq_true rfl) rfl 35 rfl ?_
      intro x17 M18
      exact g_iret rfl dX10_groupTold_35
    · refine g_iload_n 3 rfl rfl 37 rfl dX10_groupTold_36 ?_
      refine g_iconst 3 38 rfl dX10_groupTold_37 (by decide) ?_
      refine g_icmp_ge 49 (by decide) 41 rfl dX10_groupTold_38 ?_ ?_
      · refine g_iload_n 3 rfl rfl 50 rfl dX10_groupTold_49 ?_
        refine g_iconst 3 51 rfl dX10_groupTold_50 (by decide) ?_
        refine g_icmp_ne 100 (by decide) 54 rfl dX10_groupTold_51 ?_ ?_
        · refine g_iconst 0 55 rfl dX10_groupTold_54 (by decide) ?_
          refine g_istoreA [(4, .int 0), (0, .ref (wA Ω 0)), (1, .int p0), (2, .int p1), (3, .int p2)] 57 rfl dX10_groupTold_55 (by decide) rfl ?_
          refine g_iconst 0 58 rfl dX10_groupTold_57 (by decide) ?_
          refine g_istoreA [(5, .int 0), (4, .int 0), (0, .ref (wA Ω 0)), (1, .int p0), (2, .int p1), (3, .int p2)] 60 rfl dX10_groupTold_58 (by decide) rfl ?_
          refine g_sub [(0, .ref (wA Ω 0)), (1, .int p0), (2, .int p1), (4, .int 0), (5, .int 0)] [2, 3, 4, 1, 0] rfl ?_
          refine g_loop 60 (fun a8 => [(0, .ref (wA Ω 0)), (1, .int p0), (2, .int p1), (4, .int a8.1), (5, .int a8.2)]) (fun _ => []) (fun a8 => M1) ?_ FU (0, 0)
          intro k9 hk9 a8
          unfold fX10_groupTold_L1
          refine g_iload 4 rfl 62 rfl dX10_groupTold_60 ?_
          refine g_aload_n 0 rfl rfl 63 rfl dX10_groupTold_62 ?_
          refine g_iload_n 1 rfl rfl 64 rfl dX10_groupTold_63 ?_
          refine g_iconst 2 65 rfl dX10_groupTold_64 (by decide) ?_
          refine p_cVI 0 [.int p0, .int 2] [.int a8.2] (c_X10_of l hO hX M1 p0 2) dX10_groupTold_65 uv_X10_78 rfl yk_X10_of ⟨by decide, by decide⟩ (lm_0 hX).1 (lm_0 hX).2 rfl (Nat.le_of_ble_eq_true rfl) rfl 68 rfl ?_
          intro x10
          refine g_icmp_ge 97 (by decide) 71 rfl dX10_groupTold_68 ?_ ?_
          · refine g_iload 3 rfl 99 rfl dX10_groupTold_97 ?_
            exact g_iret rfl dX10_groupTold_99
          · refine g_aload_n 0 rfl rfl 72 rfl dX10_groupTold_71 ?_
            refine g_iload_n 1 rfl rfl 73 rfl dX10_groupTold_72 ?_
            refine g_iload_n 2 rfl rfl 74 rfl dX10_groupTold_73 ?_
            refine g_iload 4 rfl 76 rfl dX10_groupTold_74 ?_
            refine p_cVI 0 [.int p0, .int p1, .int a8.2] [] (c_X10_clear l hO hX M1 p0 p1 a8.2) dX10_groupTold_76 uv_X10_121 rfl yk_X10_clear ⟨by decide, by decide⟩ (lm_0 hX).1 (lm_0 hX).2 rfl (Nat.le_of_ble_eq_true rfl) rfl 79 rfl ?_
            intro x11
            refine g_join 91 (fun a12 => [(0, .ref (wA Ω 0)), (1, .int p0), (2, .int p1), (4, .int a12), (5, .int a8.2)]) (fun a12 => []) (fun a12 => M1) ?_ ?_
            · intro a12
              refine g_iinc 4 rfl 1 (by decide) (fun x14 => [(5, .int x14), (0, .ref (wA Ω 0)), (1, .int p0), (2, .int p1), (4, .int a12)]) 94 rfl dX10_groupTold_91 (by decide) (fun _ => rfl) ?_
              intro x14
              refine g_goto 60 (by decide) dX10_groupTold_94 ?_
              refine g_sub [(0, .ref (wA Ω 0)), (1, .int p0), (2, .int p1), (4, .int a12), (5, .int x14)] [1, 2, 3, 4, 0] rfl ?_
              exact hk9 (a12, x14)
            · intro k13 hk13
              refine g_if_lt 91 (by decide) 82 rfl dX10_groupTold_79 ?_ ?_
              · exact hk13 a8.1
              · refine g_iload 3 rfl 84 rfl dX10_groupTold_82 ?_
                refine g_iconst 1 85 rfl dX10_groupTold_84 (by decide) ?_
                refine g_iload 4 rfl 87 rfl dX10_groupTold_85 ?_
                refine g_ishl 88 rfl dX10_groupTold_87 ?_
                refine g_ior 89 rfl dX10_groupTold_88 ?_
                refine g_istore (fun x15 => [(4, .int x15), (0, .ref (wA Ω 0)), (1, .int p0), (2, .int p1), (5, .int a8.2)]) 91 rfl dX10_groupTold_89 (by decide) (fun _ => rfl) ?_
                intro x15
                refine g_sub [(0, .ref (wA Ω 0)), (1, .int p0), (2, .int p1), (4, .int x15), (5, .int a8.2)] [1, 2, 3, 0, 4] rfl ?_
                exact hk13 x15
        · refine g_iload_n 3 rfl rfl 101 rfl dX10_groupTold_100 ?_
          refine g_bipush 7 103 rfl dX10_groupTold_101 (by decide) ?_
          refine g_join 124 (fun a4 => []) (fun a4 => [.int a4]) (fun a4 => M1) ?_ ?_
          · intro a4
            exact g_iret rfl dX10_groupTold_124
          · intro k5 hk5
            refine g_icmp_ne 115 (by decide) 106 rfl dX10_groupTold_103 ?_ ?_
            · refine g_aload_n 0 rfl rfl 107 rfl dX10_groupTold_106 ?_
              refine g_iload_n 1 rfl rfl 108 rfl dX10_groupTold_107 ?_
              refine g_iload_n 2 rfl rfl 109 rfl dX10_groupTold_108 ?_
              refine p_cVI 0 [.int p0, .int p1] [] (c_X10_heads l hO hX M1 p0 p1) dX10_groupTold_109 uv_X10_137 rfl yk_X10_heads ⟨by decide, by decide⟩ (lm_0 hX).1 (lm_0 hX).2 rfl (Nat.le_of_ble_eq_true rfl) rfl 112 rfl ?_
              intro x7
              refine g_goto 124 (by decide) dX10_groupTold_112 ?_
              refine g_sub [] [] rfl ?_
              exact hk5 x7
            · refine g_aload_n 0 rfl rfl 116 rfl dX10_groupTold_115 ?_
              refine g_iload_n 1 rfl rfl 117 rfl dX10_groupTold_116 ?_
              refine g_iload_n 2 rfl rfl 118 rfl dX10_groupTold_117 ?_
              refine g_iload_n 3 rfl rfl 119 rfl dX10_groupTold_118 ?_
              refine g_iconst 1 120 rfl dX10_groupTold_119 (by decide) ?_
              refine g_isub 121 rfl dX10_groupTold_120 ?_
              refine p_cVI 0 [.int p0, .int p1, .int (p2 - 1)] [] (c_X10_groupOf l hO hX M1 p0 p1 (p2 - 1)) dX10_groupTold_121 uv_X10_89 rfl yk_X10_groupOf ⟨by decide, by decide⟩ (lm_0 hX).1 (lm_0 hX).2 rfl (Nat.le_of_ble_eq_true rfl) rfl 124 rfl ?_
              intro x6
              refine g_sub [] [] rfl ?_
              exact hk5 x6
      · refine g_aload_n 0 rfl rfl 42 rfl dX10_groupTold_41 ?_
        refine g_iload_n 1 rfl rfl 43 rfl dX10_groupTold_42 ?_
        refine g_iload_n 2 rfl rfl 44 rfl dX10_groupTold_43 ?_
        refine g_iload_n 3 rfl rfl 45 rfl dX10_groupTold_44 ?_
        refine p_cVI 0 [.int p0, .int p1, .int p2] [] (c_X10_groupOf l hO hX M1 p0 p1 p2) dX10_groupTold_45 uv_X10_89 rfl yk_X10_groupOf ⟨by decide, by decide⟩ (lm_0 hX).1 (lm_0 hX).2 rfl (Nat.le_of_ble_eq_true rfl) rfl 48 rfl ?_
        intro x16
        exact g_iret rfl dX10_groupTold_48
def fX10_peace (M : Mem) (p0 : Int32) (p1 : Int32) (p2 : Int32) : Option (Int32 × Mem) := bnd (mset M 0 0 0) (fun M1 => clp (fX10_isGroup M1 p0 p1) (fun x2 => jn (fun (a3 : Unit) => cl (fX10_raises M1 1) (fun x5 M6 => some (x5, M6))) (fun k4 => if x2 = 0 then (k4 ()) else (clp (fX10_isGroup M1 p0 p2) (fun x7 => if x7 = 0 then (k4 ()) else (clp (fX10_clear M1 p0 p1 p2) (fun x8 => if 0 ≤ x8 then (cl (fX10_changes M1) (fun u9 M10 => clp (fX10_clear M10 p0 p2 p1) (fun x11 => cl (fX10_clears M10 p0 p1 p2 (-1)) (fun u12 M13 => cl (fX10_clears M13 p0 p2 p1 (-1)) (fun u14 M15 => some ((100 * x8) + x11, M15)))))) else (cl (fX10_raises M1 2) (fun x16 M17 => some (x16, M17))))))))))
set_option maxRecDepth 100000 in
set_option maxHeartbeats 4000000 in
theorem c_X10_peace {Ω : Wd} (l : Launch) (hO : OkW Ω) (hX : LM Ω)  (M : Mem) (p0 : Int32) (p1 : Int32) (p2 : Int32) : ∀ r, fX10_peace M p0 p1 p2 = some r → Ct l yX10_peace (.code yX10_peace cX10_peace 6 (some .int)) 3 65 Ω [.ref (wA Ω 0), .int p0, .int p1, .int p2] M (cvI r) := by
  refine ofG [(0, .ref (wA Ω 0)), (1, .int p0), (2, .int p1), (3, .int p2)] hO (by decide) rfl (Nat.le_of_ble_eq_true rfl) rfl ?_
  intro p e s m args below meth c
  unfold fX10_peace
  refine g_aload_n 0 rfl rfl 1 rfl dX10_peace_0 ?_
  refine g_iconst 0 2 rfl dX10_peace_1 (by decide) ?_
  refine w_put (lm_0 hX) rfl in_X10 0 (by decide) wf_X10_47 tyX10 tyX10_ok nmX10 rfl rfl rfl rfl 5 rfl dX10_peace_2 ?_
  intro M1
  refine g_aload_n 0 rfl rfl 6 rfl dX10_peace_5 ?_
  refine g_iload_n 1 rfl rfl 7 rfl dX10_peace_6 ?_
  refine g_iload_n 2 rfl rfl 8 rfl dX10_peace_7 ?_
  refine p_cVI 0 [.int p0, .int p1] [] (c_X10_isGroup l hO hX M1 p0 p1) dX10_peace_8 uv_X10_105 rfl yk_X10_isGroup ⟨by decide, by decide⟩ (lm_0 hX).1 (lm_0 hX).2 rfl (Nat.le_of_ble_eq_true rfl) rfl 11 rfl ?_
  intro x2
  refine g_join 23 (fun a3 => [(0, .ref (wA Ω 0))]) (fun a3 => []) (fun a3 => M1) ?_ ?_
  · intro a3
    refine g_aload_n 0 rfl rfl 24 rfl dX10_peace_23 ?_
    refine g_iconst 1 25 rfl dX10_peace_24 (by decide) ?_
    refine g_cVI 0 [.int 1] [] (c_X10_raises l hO hX M1 1) dX10_peace_25 uv_X10_53 rfl yk_X10_raises ⟨by decide, by decide⟩ (lm_0 hX).1 (lm_0 hX).2 rfl (Nat.le_of_ble_eq_true rfl) rfl 28 rfl ?_
    intro x5 M6
    exact g_iret rfl dX10_peace_28
  · intro k4 hk4
    refine g_if_eq 23 (by decide) 14 rfl dX10_peace_11 ?_ ?_
    · refine g_sub [(0, .ref (wA Ω 0))] [0] rfl ?_
      exact hk4 ()
    · refine g_aload_n 0 rfl rfl 15 rfl dX10_peace_14 ?_
      refine g_iload_n 1 rfl rfl 16 rfl dX10_peace_15 ?_
      refine g_iload_n 3 rfl rfl 17 rfl dX10_peace_16 ?_
      refine p_cVI 0 [.int p0, .int p2] [] (c_X10_isGroup l hO hX M1 p0 p2) dX10_peace_17 uv_X10_105 rfl yk_X10_isGroup ⟨by decide, by decide⟩ (lm_0 hX).1 (lm_0 hX).2 rfl (Nat.le_of_ble_eq_true rfl) rfl 20 rfl ?_
      intro x7
      refine g_if_ne 29 (by decide) 23 rfl dX10_peace_20 ?_ ?_
      · refine g_sub [(0, .ref (wA Ω 0))] [0] rfl ?_
        exact hk4 ()
      · refine g_aload_n 0 rfl rfl 30 rfl dX10_peace_29 ?_
        refine g_iload_n 1 rfl rfl 31 rfl dX10_peace_30 ?_
        refine g_iload_n 2 rfl rfl 32 rfl dX10_peace_31 ?_
        refine g_iload_n 3 rfl rfl 33 rfl dX10_peace_32 ?_
        refine p_cVI 0 [.int p0, .int p1, .int p2] [] (c_X10_clear l hO hX M1 p0 p1 p2) dX10_peace_33 uv_X10_121 rfl yk_X10_clear ⟨by decide, by decide⟩ (lm_0 hX).1 (lm_0 hX).2 rfl (Nat.le_of_ble_eq_true rfl) rfl 36 rfl ?_
        intro x8
        refine g_istoreA [(4, .int x8), (0, .ref (wA Ω 0)), (1, .int p0), (2, .int p1), (3, .int p2)] 38 rfl dX10_peace_36 (by decide) rfl ?_
        refine g_iload 0 rfl 40 rfl dX10_peace_38 ?_
        refine g_if_ge 49 (by decide) 43 rfl dX10_peace_40 ?_ ?_
        · refine g_aload_n 1 rfl rfl 50 rfl dX10_peace_49 ?_
          refine g_cVV 0 [] [] (c_X10_changes l hO hX M1) dX10_peace_50 uv_X10_99 rfl yk_X10_changes ⟨by decide, by decide⟩ (lm_0 hX).1 (lm_0 hX).2 rfl (Nat.le_of_ble_eq_true rfl) rfl 53 rfl ?_
          intro u9 M10
          refine g_aload_n 1 rfl rfl 54 rfl dX10_peace_53 ?_
          refine g_iload_n 2 rfl rfl 55 rfl dX10_peace_54 ?_
          refine g_iload_n 4 rfl rfl 56 rfl dX10_peace_55 ?_
          refine g_iload_n 3 rfl rfl 57 rfl dX10_peace_56 ?_
          refine p_cVI 0 [.int p0, .int p2, .int p1] [] (c_X10_clear l hO hX M10 p0 p2 p1) dX10_peace_57 uv_X10_121 rfl yk_X10_clear ⟨by decide, by decide⟩ (lm_0 hX).1 (lm_0 hX).2 rfl (Nat.le_of_ble_eq_true rfl) rfl 60 rfl ?_
          intro x11
          refine g_istoreA [(5, .int x11), (4, .int x8), (0, .ref (wA Ω 0)), (1, .int p0), (2, .int p1), (3, .int p2)] 62 rfl dX10_peace_60 (by decide) rfl ?_
          refine g_aload_n 2 rfl rfl 63 rfl dX10_peace_62 ?_
          refine g_iload_n 3 rfl rfl 64 rfl dX10_peace_63 ?_
          refine g_iload_n 4 rfl rfl 65 rfl dX10_peace_64 ?_
          refine g_iload_n 5 rfl rfl 66 rfl dX10_peace_65 ?_
          refine g_iconst (-1) 67 rfl dX10_peace_66 (by decide) ?_
          refine g_cVV 0 [.int p0, .int p1, .int p2, .int (-1)] [] (c_X10_clears l hO hX M10 p0 p1 p2 (-1)) dX10_peace_67 uv_X10_151 rfl yk_X10_clears ⟨by decide, by decide⟩ (lm_0 hX).1 (lm_0 hX).2 rfl (Nat.le_of_ble_eq_true rfl) rfl 70 rfl ?_
          intro u12 M13
          refine g_aload_n 2 rfl rfl 71 rfl dX10_peace_70 ?_
          refine g_iload_n 3 rfl rfl 72 rfl dX10_peace_71 ?_
          refine g_iload_n 5 rfl rfl 73 rfl dX10_peace_72 ?_
          refine g_iload_n 4 rfl rfl 74 rfl dX10_peace_73 ?_
          refine g_iconst (-1) 75 rfl dX10_peace_74 (by decide) ?_
          refine g_cVV 0 [.int p0, .int p2, .int p1, .int (-1)] [] (c_X10_clears l hO hX M13 p0 p2 p1 (-1)) dX10_peace_75 uv_X10_151 rfl yk_X10_clears ⟨by decide, by decide⟩ (lm_0 hX).1 (lm_0 hX).2 rfl (Nat.le_of_ble_eq_true rfl) rfl 78 rfl ?_
          intro u14 M15
          refine g_bipush 100 80 rfl dX10_peace_78 (by decide) ?_
          refine g_iload 1 rfl 82 rfl dX10_peace_80 ?_
          refine g_imul 83 rfl dX10_peace_82 ?_
          refine g_iload 0 rfl 85 rfl dX10_peace_83 ?_
          refine g_iadd 86 rfl dX10_peace_85 ?_
          exact g_iret rfl dX10_peace_86
        · refine g_aload_n 1 rfl rfl 44 rfl dX10_peace_43 ?_
          refine g_iconst 2 45 rfl dX10_peace_44 (by decide) ?_
          refine g_cVI 0 [.int 2] [] (c_X10_raises l hO hX M1 2) dX10_peace_45 uv_X10_53 rfl yk_X10_raises ⟨by decide, by decide⟩ (lm_0 hX).1 (lm_0 hX).2 rfl (Nat.le_of_ble_eq_true rfl) rfl 48 rfl ?_
          intro x16 M17
          exact g_iret rfl dX10_peace_48
def fX10_clearance (M : Mem) (p0 : Int32) (p1 : Int32) (p2 : Int32) : Option (Int32 × Mem) := bnd (mset M 0 0 0) (fun M1 => clp (fX10_isGroup M1 p0 p1) (fun x2 => jn (fun (a3 : Int32 × Mem) => some (a3.1, a3.2)) (fun k4 => jn (fun (a5 : Unit) => cl (fX10_raises M1 1) (fun x7 M8 => k4 (x7, M8))) (fun k6 => if x2 = 0 then (k6 ()) else (clp (fX10_isGroup M1 p0 p2) (fun x9 => if x9 = 0 then (k6 ()) else (clp (fX10_clear M1 p0 p1 p2) (fun x10 => k4 (x10, M1)))))))))
set_option maxRecDepth 100000 in
set_option maxHeartbeats 4000000 in
theorem c_X10_clearance {Ω : Wd} (l : Launch) (hO : OkW Ω) (hX : LM Ω)  (M : Mem) (p0 : Int32) (p1 : Int32) (p2 : Int32) : ∀ r, fX10_clearance M p0 p1 p2 = some r → Ct l yX10_clearance (.code yX10_clearance cX10_clearance 4 (some .int)) 3 65 Ω [.ref (wA Ω 0), .int p0, .int p1, .int p2] M (cvI r) := by
  refine ofG [(0, .ref (wA Ω 0)), (1, .int p0), (2, .int p1), (3, .int p2)] hO (by decide) rfl (Nat.le_of_ble_eq_true rfl) rfl ?_
  intro p e s m args below meth c
  unfold fX10_clearance
  refine g_aload_n 0 rfl rfl 1 rfl dX10_clearance_0 ?_
  refine g_iconst 0 2 rfl dX10_clearance_1 (by decide) ?_
  refine w_put (lm_0 hX) rfl in_X10 0 (by decide) wf_X10_47 tyX10 tyX10_ok nmX10 rfl rfl rfl rfl 5 rfl dX10_clearance_2 ?_
  intro M1
  refine g_aload_n 0 rfl rfl 6 rfl dX10_clearance_5 ?_
  refine g_iload_n 1 rfl rfl 7 rfl dX10_clearance_6 ?_
  refine g_iload_n 2 rfl rfl 8 rfl dX10_clearance_7 ?_
  refine p_cVI 0 [.int p0, .int p1] [] (c_X10_isGroup l hO hX M1 p0 p1) dX10_clearance_8 uv_X10_105 rfl yk_X10_isGroup ⟨by decide, by decide⟩ (lm_0 hX).1 (lm_0 hX).2 rfl (Nat.le_of_ble_eq_true rfl) rfl 11 rfl ?_
  intro x2
  refine g_join 38 (fun a3 => []) (fun a3 => [.int a3.1]) (fun a3 => a3.2) ?_ ?_
  · intro a3
    exact g_iret rfl dX10_clearance_38
  · intro k4 hk4
    refine g_join 33 (fun a5 => [(0, .ref (wA Ω 0))]) (fun a5 => []) (fun a5 => M1) ?_ ?_
    · intro a5
      refine g_aload_n 0 rfl rfl 34 rfl dX10_clearance_33 ?_
      refine g_iconst 1 35 rfl dX10_clearance_34 (by decide) ?_
      refine g_cVI 0 [.int 1] [] (c_X10_raises l hO hX M1 1) dX10_clearance_35 uv_X10_53 rfl yk_X10_raises ⟨by decide, by decide⟩ (lm_0 hX).1 (lm_0 hX).2 rfl (Nat.le_of_ble_eq_true rfl) rfl 38 rfl ?_
      intro x7 M8
      refine g_sub [] [] rfl ?_
      exact hk4 (x7, M8)
    · intro k6 hk6
      refine g_if_eq 33 (by decide) 14 rfl dX10_clearance_11 ?_ ?_
      · refine g_sub [(0, .ref (wA Ω 0))] [0] rfl ?_
        exact hk6 ()
      · refine g_aload_n 0 rfl rfl 15 rfl dX10_clearance_14 ?_
        refine g_iload_n 1 rfl rfl 16 rfl dX10_clearance_15 ?_
        refine g_iload_n 3 rfl rfl 17 rfl dX10_clearance_16 ?_
        refine p_cVI 0 [.int p0, .int p2] [] (c_X10_isGroup l hO hX M1 p0 p2) dX10_clearance_17 uv_X10_105 rfl yk_X10_isGroup ⟨by decide, by decide⟩ (lm_0 hX).1 (lm_0 hX).2 rfl (Nat.le_of_ble_eq_true rfl) rfl 20 rfl ?_
        intro x9
        refine g_if_eq 33 (by decide) 23 rfl dX10_clearance_20 ?_ ?_
        · refine g_sub [(0, .ref (wA Ω 0))] [0] rfl ?_
          exact hk6 ()
        · refine g_aload_n 0 rfl rfl 24 rfl dX10_clearance_23 ?_
          refine g_iload_n 1 rfl rfl 25 rfl dX10_clearance_24 ?_
          refine g_iload_n 2 rfl rfl 26 rfl dX10_clearance_25 ?_
          refine g_iload_n 3 rfl rfl 27 rfl dX10_clearance_26 ?_
          refine p_cVI 0 [.int p0, .int p1, .int p2] [] (c_X10_clear l hO hX M1 p0 p1 p2) dX10_clearance_27 uv_X10_121 rfl yk_X10_clear ⟨by decide, by decide⟩ (lm_0 hX).1 (lm_0 hX).2 rfl (Nat.le_of_ble_eq_true rfl) rfl 30 rfl ?_
          intro x10
          refine g_goto 38 (by decide) dX10_clearance_30 ?_
          refine g_sub [] [] rfl ?_
          exact hk4 (x10, M1)
def fX10_puts (M : Mem) (p0 : Int32) (p1 : Int32) (p2 : Int32) (p3 : Int32) (p4 : Int32) : Option (Unit × Mem) := clp (fX10_groupAt M p0 p2) (fun x1 => bnd ((x1 + 9) + (2 * p1)) (fun x2 => grd (inb x2 490) (bnd (mset M 1 x2.toNatClampNeg p3) (fun M3 => grd (inb (x2 + 1) 490) (bnd (mset M3 1 (x2 + 1).toNatClampNeg p4) (fun M4 => some ((), M4)))))))
set_option maxRecDepth 100000 in
set_option maxHeartbeats 4000000 in
theorem c_X10_puts {Ω : Wd} (l : Launch) (hO : OkW Ω) (hX : LM Ω)  (M : Mem) (p0 : Int32) (p1 : Int32) (p2 : Int32) (p3 : Int32) (p4 : Int32) : ∀ r, fX10_puts M p0 p1 p2 p3 p4 = some r → Ct l yX10_puts (.code yX10_puts cX10_puts 7 none) 1 21 Ω [.ref (wA Ω 0), .int p0, .int p1, .int p2, .int p3, .int p4] M (cvV r) := by
  refine ofG [(0, .ref (wA Ω 0)), (1, .int p0), (2, .int p1), (3, .int p2), (4, .int p3), (5, .int p4)] hO (by decide) rfl (Nat.le_of_ble_eq_true rfl) rfl ?_
  intro p e s m args below meth c
  unfold fX10_puts
  refine g_iload_n 1 rfl rfl 1 rfl dX10_puts_0 ?_
  refine g_iload_n 3 rfl rfl 2 rfl dX10_puts_1 ?_
  refine p_cSI [.int p0, .int p2] [] (c_X10_groupAt l hO M p0 p2) dX10_puts_2 us_X10_66 rfl yk_X10_groupAt ⟨by decide, by decide⟩ (Nat.le_of_ble_eq_true rfl) rfl 5 rfl ?_
  intro x1
  refine g_bipush 9 7 rfl dX10_puts_5 (by decide) ?_
  refine g_iadd 8 rfl dX10_puts_7 ?_
  refine g_iconst 2 9 rfl dX10_puts_8 (by decide) ?_
  refine g_iload_n 2 rfl rfl 10 rfl dX10_puts_9 ?_
  refine g_imul 11 rfl dX10_puts_10 ?_
  refine g_iadd 12 rfl dX10_puts_11 ?_
  refine g_istore (fun x2 => [(6, .int x2), (0, .ref (wA Ω 0)), (1, .int p0), (2, .int p1), (3, .int p2), (4, .int p3), (5, .int p4)]) 14 rfl dX10_puts_12 (by decide) (fun _ => rfl) ?_
  intro x2
  refine g_aload_n 1 rfl rfl 15 rfl dX10_puts_14 ?_
  refine w_getR (lm_0 hX) rfl in_X10 1 (by decide) wf_X10_9 1 rfl 18 rfl dX10_puts_15 ?_
  refine g_iload 0 rfl 20 rfl dX10_puts_18 ?_
  refine g_iload 5 rfl 22 rfl dX10_puts_20 ?_
  refine w_iast (lm_1 hX) 23 rfl dX10_puts_22 ?_
  intro M3
  refine g_aload_n 1 rfl rfl 24 rfl dX10_puts_23 ?_
  refine w_getR (lm_0 hX) rfl in_X10 1 (by decide) wf_X10_9 1 rfl 27 rfl dX10_puts_24 ?_
  refine g_iload 0 rfl 29 rfl dX10_puts_27 ?_
  refine g_iconst 1 30 rfl dX10_puts_29 (by decide) ?_
  refine g_iadd 31 rfl dX10_puts_30 ?_
  refine g_iload 6 rfl 33 rfl dX10_puts_31 ?_
  refine w_iast (lm_1 hX) 34 rfl dX10_puts_33 ?_
  intro M4
  exact g_vret rfl dX10_puts_34
def fX10_greens_L1 (p0 : Int32) (p1 : Int32) (M : Mem) (k2 : (Int32 × Int32) → Option Int32) (a1 : Int32 × Int32) : Option Int32 := clp (fX10_of M p0 2) (fun x3 => if x3 ≤ a1.2 then (some a1.1) else (clp (fX10_length M p0 p1 a1.2) (fun x4 => jn (fun (a5 : Int32) => bnd (a1.2 + 1) (fun x7 => k2 (a5, x7))) (fun k6 => if x4 ≤ 0 then (k6 a1.1) else (bnd (a1.1 + 1) (fun x8 => k6 x8))))))
def fX10_greens (M : Mem) (p0 : Int32) (p1 : Int32) : Option Int32 := lp (fX10_greens_L1 p0 p1 M) FU (0, 0)
set_option maxRecDepth 100000 in
set_option maxHeartbeats 4000000 in
theorem c_X10_greens {Ω : Wd} (l : Launch) (hO : OkW Ω) (hX : LM Ω)  (M : Mem) (p0 : Int32) (p1 : Int32) : ∀ r, fX10_greens M p0 p1 = some r → Ct l yX10_greens (.code yX10_greens cX10_greens 5 (some .int)) 3 67 Ω [.ref (wA Ω 0), .int p0, .int p1] M ((cpI M) r) := by
  refine ofG [(0, .ref (wA Ω 0)), (1, .int p0), (2, .int p1)] hO (by decide) rfl (Nat.le_of_ble_eq_true rfl) rfl ?_
  intro p e s m args below meth c
  unfold fX10_greens
  refine g_iconst 0 1 rfl dX10_greens_0 (by decide) ?_
  refine g_istore_nA [(3, .int 0), (0, .ref (wA Ω 0)), (1, .int p0), (2, .int p1)] rfl 2 rfl dX10_greens_1 (by decide) rfl ?_
  refine g_iconst 0 3 rfl dX10_greens_2 (by decide) ?_
  refine g_istoreA [(4, .int 0), (3, .int 0), (0, .ref (wA Ω 0)), (1, .int p0), (2, .int p1)] 5 rfl dX10_greens_3 (by decide) rfl ?_
  refine g_sub [(0, .ref (wA Ω 0)), (1, .int p0), (2, .int p1), (3, .int 0), (4, .int 0)] [2, 3, 4, 1, 0] rfl ?_
  refine g_loop 5 (fun a1 => [(0, .ref (wA Ω 0)), (1, .int p0), (2, .int p1), (3, .int a1.1), (4, .int a1.2)]) (fun _ => []) (fun a1 => M) ?_ FU (0, 0)
  intro k2 hk2 a1
  unfold fX10_greens_L1
  refine g_iload 4 rfl 7 rfl dX10_greens_5 ?_
  refine g_aload_n 0 rfl rfl 8 rfl dX10_greens_7 ?_
  refine g_iload_n 1 rfl rfl 9 rfl dX10_greens_8 ?_
  refine g_iconst 2 10 rfl dX10_greens_9 (by decide) ?_
  refine p_cVI 0 [.int p0, .int 2] [.int a1.2] (c_X10_of l hO hX M p0 2) dX10_greens_10 uv_X10_78 rfl yk_X10_of ⟨by decide, by decide⟩ (lm_0 hX).1 (lm_0 hX).2 rfl (Nat.le_of_ble_eq_true rfl) rfl 13 rfl ?_
  intro x3
  refine g_icmp_ge 36 (by decide) 16 rfl dX10_greens_13 ?_ ?_
  · refine g_iload_n 3 rfl rfl 37 rfl dX10_greens_36 ?_
    exact p_iret rfl dX10_greens_37
  · refine g_aload_n 0 rfl rfl 17 rfl dX10_greens_16 ?_
    refine g_iload_n 1 rfl rfl 18 rfl dX10_greens_17 ?_
    refine g_iload_n 2 rfl rfl 19 rfl dX10_greens_18 ?_
    refine g_iload 4 rfl 21 rfl dX10_greens_19 ?_
    refine p_cVI 0 [.int p0, .int p1, .int a1.2] [] (c_X10_length l hO hX M p0 p1 a1.2) dX10_greens_21 uv_X10_96 rfl yk_X10_length ⟨by decide, by decide⟩ (lm_0 hX).1 (lm_0 hX).2 rfl (Nat.le_of_ble_eq_true rfl) rfl 24 rfl ?_
    intro x4
    refine g_join 30 (fun a5 => [(0, .ref (wA Ω 0)), (1, .int p0), (2, .int p1), (3, .int a5), (4, .int a1.2)]) (fun a5 => []) (fun a5 => M) ?_ ?_
    · intro a5
      refine g_iinc 4 rfl 1 (by decide) (fun x7 => [(4, .int x7), (0, .ref (wA Ω 0)), (1, .int p0), (2, .int p1), (3, .int a5)]) 33 rfl dX10_greens_30 (by decide) (fun _ => rfl) ?_
      intro x7
      refine g_goto 5 (by decide) dX10_greens_33 ?_
      refine g_sub [(0, .ref (wA Ω 0)), (1, .int p0), (2, .int p1), (3, .int a5), (4, .int x7)] [1, 2, 3, 4, 0] rfl ?_
      exact hk2 (a5, x7)
    · intro k6 hk6
      refine g_if_le 30 (by decide) 27 rfl dX10_greens_24 ?_ ?_
      · exact hk6 a1.1
      · refine g_iinc 3 rfl 1 (by decide) (fun x8 => [(3, .int x8), (0, .ref (wA Ω 0)), (1, .int p0), (2, .int p1), (4, .int a1.2)]) 30 rfl dX10_greens_27 (by decide) (fun _ => rfl) ?_
        intro x8
        refine g_sub [(0, .ref (wA Ω 0)), (1, .int p0), (2, .int p1), (3, .int x8), (4, .int a1.2)] [1, 2, 3, 0, 4] rfl ?_
        exact hk6 x8
def fX10_isGreen (M : Mem) (p0 : Int32) (p1 : Int32) : Option Int32 := grd (inb 0 490) (clp (fX10_in M p0 0 ((M 1 (0 : Int32).toNatClampNeg) - 1)) (fun x1 => jn (fun (a2 : Int32) => grd (isb a2) (some a2)) (fun k3 => jn (fun (a4 : Unit) => k3 0) (fun k5 => if x1 = 0 then (k5 ()) else (grd (inb 0 490) (clp (fX10_in M p1 1 (M 1 (0 : Int32).toNatClampNeg)) (fun x6 => if x6 = 0 then (k5 ()) else (k3 1))))))))
set_option maxRecDepth 100000 in
set_option maxHeartbeats 4000000 in
theorem c_X10_isGreen {Ω : Wd} (l : Launch) (hO : OkW Ω) (hX : LM Ω)  (M : Mem) (p0 : Int32) (p1 : Int32) : ∀ r, fX10_isGreen M p0 p1 = some r → Ct l yX10_isGreen (.code yX10_isGreen cX10_isGreen 3 (some .boolean)) 1 22 Ω [.ref (wA Ω 0), .int p0, .int p1] M ((cpI M) r) := by
  refine ofG [(0, .ref (wA Ω 0)), (1, .int p0), (2, .int p1)] hO (by decide) rfl (Nat.le_of_ble_eq_true rfl) rfl ?_
  intro p e s m args below meth c
  unfold fX10_isGreen
  refine g_iload_n 1 rfl rfl 1 rfl dX10_isGreen_0 ?_
  refine g_iconst 0 2 rfl dX10_isGreen_1 (by decide) ?_
  refine g_aload_n 0 rfl rfl 3 rfl dX10_isGreen_2 ?_
  refine w_getR (lm_0 hX) rfl in_X10 1 (by decide) wf_X10_9 1 rfl 6 rfl dX10_isGreen_3 ?_
  refine g_iconst 0 7 rfl dX10_isGreen_6 (by decide) ?_
  refine w_iald (lm_1 hX) 8 rfl dX10_isGreen_7 ?_
  refine g_iconst 1 9 rfl dX10_isGreen_8 (by decide) ?_
  refine g_isub 10 rfl dX10_isGreen_9 ?_
  refine p_cSI [.int p0, .int 0, .int ((M 1 (0 : Int32).toNatClampNeg) - 1)] [] (c_X10_in l hO M p0 0 ((M 1 (0 : Int32).toNatClampNeg) - 1)) dX10_isGreen_10 us_X10_70 rfl yk_X10_in ⟨by decide, by decide⟩ (Nat.le_of_ble_eq_true rfl) rfl 13 rfl ?_
  intro x1
  refine g_join 35 (fun a2 => []) (fun a2 => [.int a2]) (fun a2 => M) ?_ ?_
  · intro a2
    exact p_bret rfl dX10_isGreen_35
  · intro k3 hk3
    refine g_join 34 (fun a4 => []) (fun a4 => []) (fun a4 => M) ?_ ?_
    · intro a4
      refine g_iconst 0 35 rfl dX10_isGreen_34 (by decide) ?_
      exact hk3 0
    · intro k5 hk5
      refine g_if_eq 34 (by decide) 16 rfl dX10_isGreen_13 ?_ ?_
      · refine g_sub [] [] rfl ?_
        exact hk5 ()
      · refine g_iload_n 2 rfl rfl 17 rfl dX10_isGreen_16 ?_
        refine g_iconst 1 18 rfl dX10_isGreen_17 (by decide) ?_
        refine g_aload_n 0 rfl rfl 19 rfl dX10_isGreen_18 ?_
        refine w_getR (lm_0 hX) rfl in_X10 1 (by decide) wf_X10_9 1 rfl 22 rfl dX10_isGreen_19 ?_
        refine g_iconst 0 23 rfl dX10_isGreen_22 (by decide) ?_
        refine w_iald (lm_1 hX) 24 rfl dX10_isGreen_23 ?_
        refine p_cSI [.int p1, .int 1, .int (M 1 (0 : Int32).toNatClampNeg)] [] (c_X10_in l hO M p1 1 (M 1 (0 : Int32).toNatClampNeg)) dX10_isGreen_24 us_X10_70 rfl yk_X10_in ⟨by decide, by decide⟩ (Nat.le_of_ble_eq_true rfl) rfl 27 rfl ?_
        intro x6
        refine g_if_eq 34 (by decide) 30 rfl dX10_isGreen_27 ?_ ?_
        · refine g_sub [] [] rfl ?_
          exact hk5 ()
        · refine g_iconst 1 31 rfl dX10_isGreen_30 (by decide) ?_
          refine g_goto 35 (by decide) dX10_isGreen_31 ?_
          refine g_sub [] [] rfl ?_
          exact hk3 1
def fX10_dark (M : Mem) (p0 : Int32) (p1 : Int32) (p2 : Int32) : Option (Int32 × Mem) := bnd (mset M 0 0 0) (fun M1 => clp (fX10_isPlan M1 p0 p1) (fun x2 => jn (fun (a3 : Unit) => cl (fX10_raises M1 1) (fun x5 M6 => some (x5, M6))) (fun k4 => if x2 = 0 then (k4 ()) else (clp (fX10_isGroup M1 p0 p2) (fun x7 => if x7 = 0 then (k4 ()) else (clp (fX10_of M1 p0 4) (fun x8 => if x8 < 0 then (cl (fX10_changes M1) (fun u9 M10 => clp (fX10_length M10 p0 p1 p2) (fun x11 => cl (fX10_puts M10 p0 p1 p2 0 0) (fun u12 M13 => some (x11, M13))))) else (cl (fX10_raises M1 2) (fun x14 M15 => some (x14, M15))))))))))
set_option maxRecDepth 100000 in
set_option maxHeartbeats 4000000 in
theorem c_X10_dark {Ω : Wd} (l : Launch) (hO : OkW Ω) (hX : LM Ω)  (M : Mem) (p0 : Int32) (p1 : Int32) (p2 : Int32) : ∀ r, fX10_dark M p0 p1 p2 = some r → Ct l yX10_dark (.code yX10_dark cX10_dark 5 (some .int)) 3 67 Ω [.ref (wA Ω 0), .int p0, .int p1, .int p2] M (cvI r) := by
  refine ofG [(0, .ref (wA Ω 0)), (1, .int p0), (2, .int p1), (3, .int p2)] hO (by decide) rfl (Nat.le_of_ble_eq_true rfl) rfl ?_
  intro p e s m args below meth c
  unfold fX10_dark
  refine g_aload_n 0 rfl rfl 1 rfl dX10_dark_0 ?_
  refine g_iconst 0 2 rfl dX10_dark_1 (by decide) ?_
  refine w_put (lm_0 hX) rfl in_X10 0 (by decide) wf_X10_47 tyX10 tyX10_ok nmX10 rfl rfl rfl rfl 5 rfl dX10_dark_2 ?_
  intro M1
  refine g_aload_n 0 rfl rfl 6 rfl dX10_dark_5 ?_
  refine g_iload_n 1 rfl rfl 7 rfl dX10_dark_6 ?_
  refine g_iload_n 2 rfl rfl 8 rfl dX10_dark_7 ?_
  refine p_cVI 0 [.int p0, .int p1] [] (c_X10_isPlan l hO hX M1 p0 p1) dX10_dark_8 uv_X10_165 rfl yk_X10_isPlan ⟨by decide, by decide⟩ (lm_0 hX).1 (lm_0 hX).2 rfl (Nat.le_of_ble_eq_true rfl) rfl 11 rfl ?_
  intro x2
  refine g_join 23 (fun a3 => [(0, .ref (wA Ω 0))]) (fun a3 => []) (fun a3 => M1) ?_ ?_
  · intro a3
    refine g_aload_n 0 rfl rfl 24 rfl dX10_dark_23 ?_
    refine g_iconst 1 25 rfl dX10_dark_24 (by decide) ?_
    refine g_cVI 0 [.int 1] [] (c_X10_raises l hO hX M1 1) dX10_dark_25 uv_X10_53 rfl yk_X10_raises ⟨by decide, by decide⟩ (lm_0 hX).1 (lm_0 hX).2 rfl (Nat.le_of_ble_eq_true rfl) rfl 28 rfl ?_
    intro x5 M6
    exact g_iret rfl dX10_dark_28
  · intro k4 hk4
    refine g_if_eq 23 (by decide) 14 rfl dX10_dark_11 ?_ ?_
    · refine g_sub [(0, .ref (wA Ω 0))] [0] rfl ?_
      exact hk4 ()
    · refine g_aload_n 0 rfl rfl 15 rfl dX10_dark_14 ?_
      refine g_iload_n 1 rfl rfl 16 rfl dX10_dark_15 ?_
      refine g_iload_n 3 rfl rfl 17 rfl dX10_dark_16 ?_
      refine p_cVI 0 [.int p0, .int p2] [] (c_X10_isGroup l hO hX M1 p0 p2) dX10_dark_17 uv_X10_105 rfl yk_X10_isGroup ⟨by decide, by decide⟩ (lm_0 hX).1 (lm_0 hX).2 rfl (Nat.le_of_ble_eq_true rfl) rfl 20 rfl ?_
      intro x7
      refine g_if_ne 29 (by decide) 23 rfl dX10_dark_20 ?_ ?_
      · refine g_sub [(0, .ref (wA Ω 0))] [0] rfl ?_
        exact hk4 ()
      · refine g_aload_n 0 rfl rfl 30 rfl dX10_dark_29 ?_
        refine g_iload_n 1 rfl rfl 31 rfl dX10_dark_30 ?_
        refine g_iconst 4 32 rfl dX10_dark_31 (by decide) ?_
        refine p_cVI 0 [.int p0, .int 4] [] (c_X10_of l hO hX M1 p0 4) dX10_dark_32 uv_X10_78 rfl yk_X10_of ⟨by decide, by decide⟩ (lm_0 hX).1 (lm_0 hX).2 rfl (Nat.le_of_ble_eq_true rfl) rfl 35 rfl ?_
        intro x8
        refine g_if_lt 44 (by decide) 38 rfl dX10_dark_35 ?_ ?_
        · refine g_aload_n 0 rfl rfl 45 rfl dX10_dark_44 ?_
          refine g_cVV 0 [] [] (c_X10_changes l hO hX M1) dX10_dark_45 uv_X10_99 rfl yk_X10_changes ⟨by decide, by decide⟩ (lm_0 hX).1 (lm_0 hX).2 rfl (Nat.le_of_ble_eq_true rfl) rfl 48 rfl ?_
          intro u9 M10
          refine g_aload_n 0 rfl rfl 49 rfl dX10_dark_48 ?_
          refine g_iload_n 1 rfl rfl 50 rfl dX10_dark_49 ?_
          refine g_iload_n 2 rfl rfl 51 rfl dX10_dark_50 ?_
          refine g_iload_n 3 rfl rfl 52 rfl dX10_dark_51 ?_
          refine p_cVI 0 [.int p0, .int p1, .int p2] [] (c_X10_length l hO hX M10 p0 p1 p2) dX10_dark_52 uv_X10_96 rfl yk_X10_length ⟨by decide, by decide⟩ (lm_0 hX).1 (lm_0 hX).2 rfl (Nat.le_of_ble_eq_true rfl) rfl 55 rfl ?_
          intro x11
          refine g_istoreA [(4, .int x11), (0, .ref (wA Ω 0)), (1, .int p0), (2, .int p1), (3, .int p2)] 57 rfl dX10_dark_55 (by decide) rfl ?_
          refine g_aload_n 1 rfl rfl 58 rfl dX10_dark_57 ?_
          refine g_iload_n 2 rfl rfl 59 rfl dX10_dark_58 ?_
          refine g_iload_n 3 rfl rfl 60 rfl dX10_dark_59 ?_
          refine g_iload_n 4 rfl rfl 61 rfl dX10_dark_60 ?_
          refine g_iconst 0 62 rfl dX10_dark_61 (by decide) ?_
          refine g_iconst 0 63 rfl dX10_dark_62 (by decide) ?_
          refine g_cVV 0 [.int p0, .int p1, .int p2, .int 0, .int 0] [] (c_X10_puts l hO hX M10 p0 p1 p2 0 0) dX10_dark_63 uv_X10_161 rfl yk_X10_puts ⟨by decide, by decide⟩ (lm_0 hX).1 (lm_0 hX).2 rfl (Nat.le_of_ble_eq_true rfl) rfl 66 rfl ?_
          intro u12 M13
          refine g_iload 0 rfl 68 rfl dX10_dark_66 ?_
          exact g_iret rfl dX10_dark_68
        · refine g_aload_n 0 rfl rfl 39 rfl dX10_dark_38 ?_
          refine g_iconst 2 40 rfl dX10_dark_39 (by decide) ?_
          refine g_cVI 0 [.int 2] [] (c_X10_raises l hO hX M1 2) dX10_dark_40 uv_X10_53 rfl yk_X10_raises ⟨by decide, by decide⟩ (lm_0 hX).1 (lm_0 hX).2 rfl (Nat.le_of_ble_eq_true rfl) rfl 43 rfl ?_
          intro x14 M15
          exact g_iret rfl dX10_dark_43
def fX10_puts__L1 (p0 : Int32) (p1 : Int32) (a2 : Int32 × Mem) (k5 : Int32 → Option (Int32 × Mem)) (k13 : (Int32 × Int32) → Option (Int32 × Mem)) (a12 : Int32 × Int32) : Option (Int32 × Mem) := if p1 ≤ a12.2 then (k5 a12.1) else (grd (inb a12.2 6) (jn (fun (a14 : Int32) => bnd (a12.2 + 1) (fun x16 => k13 (a14, x16))) (fun k15 => if a2.2 8 a12.2.toNatClampNeg = a2.1 then (clp (fX10_clear a2.2 p0 p1 a12.2) (fun x17 => if x17 < 0 then (k15 a12.1) else (k15 0))) else (k15 a12.1))))
def fX10_puts__L2 (p0 : Int32) (p1 : Int32) (p2 : Int32) (fr : Mem → Int32 → Int32 → Int32 → Option (Int32 × Mem)) (k3 : (Int32 × Mem) → Option (Int32 × Mem)) (a2 : Int32 × Mem) : Option (Int32 × Mem) := if p2 ≤ a2.1 then (some (0, a2.2)) else (jn (fun (a4 : Int32) => jn (fun (a6 : Mem) => bnd (a2.1 + 1) (fun x8 => k3 (x8, a6))) (fun k7 => if a4 = 0 then (k7 a2.2) else (grd (inb p1 6) (bnd (mset a2.2 8 p1.toNatClampNeg a2.1) (fun M9 => cl (fr M9 p0 (p1 + 1) p2) (fun x10 M11 => if x10 = 0 then (k7 M11) else (some (1, M11)))))))) (fun k5 => lp (fX10_puts__L1 p0 p1 a2 k5) FU (1, 0)))
def fX10_puts__B  (fr : Mem → Int32 → Int32 → Int32 → Option (Int32 × Mem)) (M : Mem) (p0 : Int32) (p1 : Int32) (p2 : Int32) : Option (Int32 × Mem) := clp (fX10_of M p0 2) (fun x1 => if p1 = x1 then (some (1, M)) else (lp (fX10_puts__L2 p0 p1 p2 fr) FU (0, M)))
def fX10_puts_  : Nat → Mem → Int32 → Int32 → Int32 → Option (Int32 × Mem)
  | 0 => fun _ _ _ _ => none
  | d + 1 => fX10_puts__B  (fX10_puts_  d)
set_option maxRecDepth 100000 in
set_option maxHeartbeats 4000000 in
theorem c_X10_puts_ {Ω : Wd} (l : Launch) (hO : OkW Ω) (hX : LM Ω)  : ∀ (d : Nat) (M : Mem) (p0 : Int32) (p1 : Int32) (p2 : Int32), ∀ r, fX10_puts_  d M p0 p1 p2 = some r → Ct l yX10_puts_ (.code yX10_puts_ cX10_puts_ 7 (some .boolean)) (2 + d) (43 + 27 * d) Ω [.ref (wA Ω 0), .int p0, .int p1, .int p2] M (cvI r)
  | 0, _, _, _, _ => fun r hr => by cases hr
  | d + 1, M, p0, p1, p2 => by
    have ih := c_X10_puts_ l hO hX  d
    show ∀ r, fX10_puts__B  (fX10_puts_  d) M p0 p1 p2 = some r → _
    generalize fX10_puts_  d = fr at ih ⊢
    refine ofG [(0, .ref (wA Ω 0)), (1, .int p0), (2, .int p1), (3, .int p2)] hO (by decide) rfl (Nat.le_of_ble_eq_true rfl) rfl ?_
    intro p e s m args below meth c
    unfold fX10_puts__B
    refine g_iload_n 2 rfl rfl 1 rfl dX10_puts__0 ?_
    refine g_aload_n 0 rfl rfl 2 rfl dX10_puts__1 ?_
    refine g_iload_n 1 rfl rfl 3 rfl dX10_puts__2 ?_
    refine g_iconst 2 4 rfl dX10_puts__3 (by decide) ?_
    refine p_cVI 0 [.int p0, .int 2] [.int p1] (c_X10_of l hO hX M p0 2) dX10_puts__4 uv_X10_78 rfl yk_X10_of ⟨by omega, by omega⟩ (lm_0 hX).1 (lm_0 hX).2 rfl (Nat.le_of_ble_eq_true rfl) rfl 7 rfl ?_
    intro x1
    refine g_icmp_ne 12 (by decide) 10 rfl dX10_puts__7 ?_ ?_
    · refine g_iconst 1 11 rfl dX10_puts__10 (by decide) ?_
      exact g_zret rfl rfl dX10_puts__11
    · refine g_iconst 0 13 rfl dX10_puts__12 (by decide) ?_
      refine g_istoreA [(4, .int 0), (0, .ref (wA Ω 0)), (1, .int p0), (2, .int p1), (3, .int p2)] 15 rfl dX10_puts__13 (by decide) rfl ?_
      refine g_sub [(0, .ref (wA Ω 0)), (1, .int p0), (2, .int p1), (3, .int p2), (4, .int 0)] [1, 2, 3, 4, 0] rfl ?_
      refine g_loop 15 (fun a2 => [(0, .ref (wA Ω 0)), (1, .int p0), (2, .int p1), (3, .int p2), (4, .int a2.1)]) (fun _ => []) (fun a2 => a2.2) ?_ FU (0, M)
      intro k3 hk3 a2
      unfold fX10_puts__L2
      refine g_iload 4 rfl 17 rfl dX10_puts__15 ?_
      refine g_iload_n 3 rfl rfl 18 rfl dX10_puts__17 ?_
      refine g_icmp_ge 101 (by decide) 21 rfl dX10_puts__18 ?_ ?_
      · refine g_iconst 0 102 rfl dX10_puts__101 (by decide) ?_
        exact g_zret rfl rfl dX10_puts__102
      · refine g_iconst 1 22 rfl dX10_puts__21 (by decide) ?_
        refine g_istoreA [(5, .int 1), (0, .ref (wA Ω 0)), (1, .int p0), (2, .int p1), (3, .int p2), (4, .int a2.1)] 24 rfl dX10_puts__22 (by decide) rfl ?_
        refine g_iconst 0 25 rfl dX10_puts__24 (by decide) ?_
        refine g_istoreA [(6, .int 0), (5, .int 1), (0, .ref (wA Ω 0)), (1, .int p0), (2, .int p1), (3, .int p2), (4, .int a2.1)] 27 rfl dX10_puts__25 (by decide) rfl ?_
        refine g_join 65 (fun a4 => [(0, .ref (wA Ω 0)), (1, .int p0), (2, .int p1), (3, .int p2), (4, .int a2.1), (5, .int a4)]) (fun a4 => []) (fun a4 => a2.2) ?_ ?_
        · intro a4
          refine g_iload 5 rfl 67 rfl dX10_puts__65 ?_
          refine g_join 95 (fun a6 => [(0, .ref (wA Ω 0)), (1, .int p0), (2, .int p1), (3, .int p2), (4, .int a2.1)]) (fun a6 => []) (fun a6 => a6) ?_ ?_
          · intro a6
            refine g_iinc 4 rfl 1 (by decide) (fun x8 => [(4, .int x8), (0, .ref (wA Ω 0)), (1, .int p0), (2, .int p1), (3, .int p2)]) 98 rfl dX10_puts__95 (by decide) (fun _ => rfl) ?_
            intro x8
            refine g_goto 15 (by decide) dX10_puts__98 ?_
            refine g_sub [(0, .ref (wA Ω 0)), (1, .int p0), (2, .int p1), (3, .int p2), (4, .int x8)] [1, 2, 3, 4, 0] rfl ?_
            exact hk3 (x8, a6)
          · intro k7 hk7
            refine g_if_ne 73 (by decide) 70 rfl dX10_puts__67 ?_ ?_
            · refine g_goto 95 (by decide) dX10_puts__70 ?_
              refine g_sub [(0, .ref (wA Ω 0)), (1, .int p0), (2, .int p1), (3, .int p2), (4, .int a2.1)] [0, 1, 2, 3, 4] rfl ?_
              exact hk7 a2.2
            · refine g_aload_n 0 rfl rfl 74 rfl dX10_puts__73 ?_
              refine w_getR (lm_0 hX) rfl in_X10 15 (by decide) wf_X10_35 8 rfl 77 rfl dX10_puts__74 ?_
              refine g_iload_n 2 rfl rfl 78 rfl dX10_puts__77 ?_
              refine g_iload 4 rfl 80 rfl dX10_puts__78 ?_
              refine w_iast (lm_8 hX) 81 rfl dX10_puts__80 ?_
              intro M9
              refine g_aload_n 0 rfl rfl 82 rfl dX10_puts__81 ?_
              refine g_iload_n 1 rfl rfl 83 rfl dX10_puts__82 ?_
              refine g_iload_n 2 rfl rfl 84 rfl dX10_puts__83 ?_
              refine g_iconst 1 85 rfl dX10_puts__84 (by decide) ?_
              refine g_iadd 86 rfl dX10_puts__85 ?_
              refine g_iload_n 3 rfl rfl 87 rfl dX10_puts__86 ?_
              refine g_cVI 0 [.int p0, .int (p1 + 1), .int p2] [] (ih M9 p0 (p1 + 1) p2) dX10_puts__87 uv_X10_180 rfl yk_X10_puts_ ⟨by omega, by omega⟩ (lm_0 hX).1 (lm_0 hX).2 rfl (Nat.le_of_ble_eq_true rfl) rfl 90 rfl ?_
              intro x10 M11
              refine g_if_eq 95 (by decide) 93 rfl dX10_puts__90 ?_ ?_
              · refine g_sub [(0, .ref (wA Ω 0)), (1, .int p0), (2, .int p1), (3, .int p2), (4, .int a2.1)] [0, 1, 2, 3, 4] rfl ?_
                exact hk7 M11
              · refine g_iconst 1 94 rfl dX10_puts__93 (by decide) ?_
                exact g_zret rfl rfl dX10_puts__94
        · intro k5 hk5
          refine g_sub [(0, .ref (wA Ω 0)), (1, .int p0), (2, .int p1), (3, .int p2), (4, .int a2.1), (5, .int 1), (6, .int 0)] [2, 3, 4, 5, 6, 1, 0] rfl ?_
          refine g_loop 27 (fun a12 => [(0, .ref (wA Ω 0)), (1, .int p0), (2, .int p1), (3, .int p2), (4, .int a2.1), (5, .int a12.1), (6, .int a12.2)]) (fun _ => []) (fun a12 => a2.2) ?_ FU (1, 0)
          intro k13 hk13 a12
          unfold fX10_puts__L1
          refine g_iload 6 rfl 29 rfl dX10_puts__27 ?_
          refine g_iload_n 2 rfl rfl 30 rfl dX10_puts__29 ?_
          refine g_icmp_ge 65 (by decide) 33 rfl dX10_puts__30 ?_ ?_
          · refine g_sub [(0, .ref (wA Ω 0)), (1, .int p0), (2, .int p1), (3, .int p2), (4, .int a2.1), (5, .int a12.1)] [0, 1, 2, 3, 4, 5] rfl ?_
            exact hk5 a12.1
          · refine g_aload_n 0 rfl rfl 34 rfl dX10_puts__33 ?_
            refine w_getR (lm_0 hX) rfl in_X10 15 (by decide) wf_X10_35 8 rfl 37 rfl dX10_puts__34 ?_
            refine g_iload 6 rfl 39 rfl dX10_puts__37 ?_
            refine w_iald (lm_8 hX) 40 rfl dX10_puts__39 ?_
            refine g_iload 4 rfl 42 rfl dX10_puts__40 ?_
            refine g_join 59 (fun a14 => [(0, .ref (wA Ω 0)), (1, .int p0), (2, .int p1), (3, .int p2), (4, .int a2.1), (5, .int a14), (6, .int a12.2)]) (fun a14 => []) (fun a14 => a2.2) ?_ ?_
            · intro a14
              refine g_iinc 6 rfl 1 (by decide) (fun x16 => [(6, .int x16), (0, .ref (wA Ω 0)), (1, .int p0), (2, .int p1), (3, .int p2), (4, .int a2.1), (5, .int a14)]) 62 rfl dX10_puts__59 (by decide) (fun _ => rfl) ?_
              intro x16
              refine g_goto 27 (by decide) dX10_puts__62 ?_
              refine g_sub [(0, .ref (wA Ω 0)), (1, .int p0), (2, .int p1), (3, .int p2), (4, .int a2.1), (5, .int a14), (6, .int x16)] [1, 2, 3, 4, 5, 6, 0] rfl ?_
              exact hk13 (a14, x16)
            · intro k15 hk15
              refine g_icmp_ne 59 (by decide) 45 rfl dX10_puts__42 ?_ ?_
              · refine g_aload_n 0 rfl rfl 46 rfl dX10_puts__45 ?_
                refine g_iload_n 1 rfl rfl 47 rfl dX10_puts__46 ?_
                refine g_iload_n 2 rfl rfl 48 rfl dX10_puts__47 ?_
                refine g_iload 6 rfl 50 rfl dX10_puts__48 ?_
                refine p_cVI 0 [.int p0, .int p1, .int a12.2] [] (c_X10_clear l hO hX a2.2 p0 p1 a12.2) dX10_puts__50 uv_X10_121 rfl yk_X10_clear ⟨by omega, by omega⟩ (lm_0 hX).1 (lm_0 hX).2 rfl (Nat.le_of_ble_eq_true rfl) rfl 53 rfl ?_
                intro x17
                refine g_if_lt 59 (by decide) 56 rfl dX10_puts__53 ?_ ?_
                · exact hk15 a12.1
                · refine g_iconst 0 57 rfl dX10_puts__56 (by decide) ?_
                  refine g_istoreA [(5, .int 0), (0, .ref (wA Ω 0)), (1, .int p0), (2, .int p1), (3, .int p2), (4, .int a2.1), (6, .int a12.2)] 59 rfl dX10_puts__57 (by decide) rfl ?_
                  refine g_sub [(0, .ref (wA Ω 0)), (1, .int p0), (2, .int p1), (3, .int p2), (4, .int a2.1), (5, .int 0), (6, .int a12.2)] [1, 2, 3, 4, 5, 0, 6] rfl ?_
                  exact hk15 0
              · exact hk15 a12.1
def fX10_phases_L1 (p0 : Int32) (k2 : (Int32 × Mem) → Option (Int32 × Mem)) (a1 : Int32 × Mem) : Option (Int32 × Mem) := cl (fX10_puts_ 8 a1.2 p0 0 a1.1) (fun x3 M4 => if x3 = 0 then (bnd (a1.1 + 1) (fun x5 => k2 (x5, M4))) else (some (a1.1, M4)))
def fX10_phases (M : Mem) (p0 : Int32) : Option (Int32 × Mem) := lp (fX10_phases_L1 p0) FU (1, M)
set_option maxRecDepth 100000 in
set_option maxHeartbeats 4000000 in
theorem c_X10_phases {Ω : Wd} (l : Launch) (hO : OkW Ω) (hX : LM Ω)  (M : Mem) (p0 : Int32) : ∀ r, fX10_phases M p0 = some r → Ct l yX10_phases (.code yX10_phases cX10_phases 3 (some .int)) 11 285 Ω [.ref (wA Ω 0), .int p0] M (cvI r) := by
  refine ofG [(0, .ref (wA Ω 0)), (1, .int p0)] hO (by decide) rfl (Nat.le_of_ble_eq_true rfl) rfl ?_
  intro p e s m args below meth c
  unfold fX10_phases
  refine g_iconst 1 1 rfl dX10_phases_0 (by decide) ?_
  refine g_istore_nA [(2, .int 1), (0, .ref (wA Ω 0)), (1, .int p0)] rfl 2 rfl dX10_phases_1 (by decide) rfl ?_
  refine g_sub [(0, .ref (wA Ω 0)), (1, .int p0), (2, .int 1)] [1, 2, 0] rfl ?_
  refine g_loop 2 (fun a1 => [(0, .ref (wA Ω 0)), (1, .int p0), (2, .int a1.1)]) (fun _ => []) (fun a1 => a1.2) ?_ FU (1, M)
  intro k2 hk2 a1
  unfold fX10_phases_L1
  refine g_aload_n 0 rfl rfl 3 rfl dX10_phases_2 ?_
  refine g_iload_n 1 rfl rfl 4 rfl dX10_phases_3 ?_
  refine g_iconst 0 5 rfl dX10_phases_4 (by decide) ?_
  refine g_iload_n 2 rfl rfl 6 rfl dX10_phases_5 ?_
  refine g_cVI 0 [.int p0, .int 0, .int a1.1] [] (c_X10_puts_ l hO hX 8 a1.2 p0 0 a1.1) dX10_phases_6 uv_X10_180 rfl yk_X10_puts_ ⟨by decide, by decide⟩ (lm_0 hX).1 (lm_0 hX).2 rfl (Nat.le_of_ble_eq_true rfl) rfl 9 rfl ?_
  intro x3 M4
  refine g_if_ne 18 (by decide) 12 rfl dX10_phases_9 ?_ ?_
  · refine g_iinc 2 rfl 1 (by decide) (fun x5 => [(2, .int x5), (0, .ref (wA Ω 0)), (1, .int p0)]) 15 rfl dX10_phases_12 (by decide) (fun _ => rfl) ?_
    intro x5
    refine g_goto 2 (by decide) dX10_phases_15 ?_
    refine g_sub [(0, .ref (wA Ω 0)), (1, .int p0), (2, .int x5)] [1, 2, 0] rfl ?_
    exact hk2 (x5, M4)
  · refine g_iload_n 2 rfl rfl 19 rfl dX10_phases_18 ?_
    exact g_iret rfl dX10_phases_19
def fX10_phase (M : Mem) (p0 : Int32) (p1 : Int32) : Option (Int32 × Mem) := bnd (mset M 0 0 0) (fun M1 => clp (fX10_isGroup M1 p0 p1) (fun x2 => if x2 = 0 then (cl (fX10_raises M1 1) (fun x5 M6 => some (x5, M6))) else (cl (fX10_phases M1 p0) (fun x3 M4 => grd (inb p1 6) (some (M4 8 p1.toNatClampNeg, M4))))))
set_option maxRecDepth 100000 in
set_option maxHeartbeats 4000000 in
theorem c_X10_phase {Ω : Wd} (l : Launch) (hO : OkW Ω) (hX : LM Ω)  (M : Mem) (p0 : Int32) (p1 : Int32) : ∀ r, fX10_phase M p0 p1 = some r → Ct l yX10_phase (.code yX10_phase cX10_phase 4 (some .int)) 12 307 Ω [.ref (wA Ω 0), .int p0, .int p1] M (cvI r) := by
  refine ofG [(0, .ref (wA Ω 0)), (1, .int p0), (2, .int p1)] hO (by decide) rfl (Nat.le_of_ble_eq_true rfl) rfl ?_
  intro p e s m args below meth c
  unfold fX10_phase
  refine g_aload_n 0 rfl rfl 1 rfl dX10_phase_0 ?_
  refine g_iconst 0 2 rfl dX10_phase_1 (by decide) ?_
  refine w_put (lm_0 hX) rfl in_X10 0 (by decide) wf_X10_47 tyX10 tyX10_ok nmX10 rfl rfl rfl rfl 5 rfl dX10_phase_2 ?_
  intro M1
  refine g_aload_n 0 rfl rfl 6 rfl dX10_phase_5 ?_
  refine g_iload_n 1 rfl rfl 7 rfl dX10_phase_6 ?_
  refine g_iload_n 2 rfl rfl 8 rfl dX10_phase_7 ?_
  refine p_cVI 0 [.int p0, .int p1] [] (c_X10_isGroup l hO hX M1 p0 p1) dX10_phase_8 uv_X10_105 rfl yk_X10_isGroup ⟨by decide, by decide⟩ (lm_0 hX).1 (lm_0 hX).2 rfl (Nat.le_of_ble_eq_true rfl) rfl 11 rfl ?_
  intro x2
  refine g_if_ne 20 (by decide) 14 rfl dX10_phase_11 ?_ ?_
  · refine g_aload_n 0 rfl rfl 15 rfl dX10_phase_14 ?_
    refine g_iconst 1 16 rfl dX10_phase_15 (by decide) ?_
    refine g_cVI 0 [.int 1] [] (c_X10_raises l hO hX M1 1) dX10_phase_16 uv_X10_53 rfl yk_X10_raises ⟨by decide, by decide⟩ (lm_0 hX).1 (lm_0 hX).2 rfl (Nat.le_of_ble_eq_true rfl) rfl 19 rfl ?_
    intro x5 M6
    exact g_iret rfl dX10_phase_19
  · refine g_aload_n 0 rfl rfl 21 rfl dX10_phase_20 ?_
    refine g_iload_n 1 rfl rfl 22 rfl dX10_phase_21 ?_
    refine g_cVI 0 [.int p0] [] (c_X10_phases l hO hX M1 p0) dX10_phase_22 uv_X10_182 rfl yk_X10_phases ⟨by decide, by decide⟩ (lm_0 hX).1 (lm_0 hX).2 rfl (Nat.le_of_ble_eq_true rfl) rfl 25 rfl ?_
    intro x3 M4
    refine g_istore_nA [(3, .int x3), (0, .ref (wA Ω 0)), (1, .int p0), (2, .int p1)] rfl 26 rfl dX10_phase_25 (by decide) rfl ?_
    refine g_aload_n 1 rfl rfl 27 rfl dX10_phase_26 ?_
    refine w_getR (lm_0 hX) rfl in_X10 15 (by decide) wf_X10_35 8 rfl 30 rfl dX10_phase_27 ?_
    refine g_iload_n 3 rfl rfl 31 rfl dX10_phase_30 ?_
    refine w_iald (lm_8 hX) 32 rfl dX10_phase_31 ?_
    exact g_iret rfl dX10_phase_32
def fX10_greenOf (M : Mem) (p0 : Int32) (p1 : Int32) (p2 : Int32) (p3 : Int32) : Option (Int32 × Mem) := bnd (mset M 0 0 0) (fun M1 => clp (fX10_isPlan M1 p0 p1) (fun x2 => jn (fun (a3 : Unit) => cl (fX10_raises M1 1) (fun x5 M6 => some (x5, M6))) (fun k4 => if x2 = 0 then (k4 ()) else (clp (fX10_isGroup M1 p0 p2) (fun x7 => if x7 = 0 then (k4 ()) else (clp (fX10_length M1 p0 p1 p2) (fun x8 => if x8 = 0 then (cl (fX10_raises M1 2) (fun x13 M14 => some (x13, M14))) else (jn (fun (a9 : Int32) => some (a9, M1)) (fun k10 => if p3 = 0 then (clp (fX10_first M1 p0 p1 p2) (fun x11 => k10 x11)) else (clp (fX10_length M1 p0 p1 p2) (fun x12 => k10 x12)))))))))))
set_option maxRecDepth 100000 in
set_option maxHeartbeats 4000000 in
theorem c_X10_greenOf {Ω : Wd} (l : Launch) (hO : OkW Ω) (hX : LM Ω)  (M : Mem) (p0 : Int32) (p1 : Int32) (p2 : Int32) (p3 : Int32) : ∀ r, fX10_greenOf M p0 p1 p2 p3 = some r → Ct l yX10_greenOf (.code yX10_greenOf cX10_greenOf 5 (some .int)) 3 67 Ω [.ref (wA Ω 0), .int p0, .int p1, .int p2, .int p3] M (cvI r) := by
  refine ofG [(0, .ref (wA Ω 0)), (1, .int p0), (2, .int p1), (3, .int p2), (4, .int p3)] hO (by decide) rfl (Nat.le_of_ble_eq_true rfl) rfl ?_
  intro p e s m args below meth c
  unfold fX10_greenOf
  refine g_aload_n 0 rfl rfl 1 rfl dX10_greenOf_0 ?_
  refine g_iconst 0 2 rfl dX10_greenOf_1 (by decide) ?_
  refine w_put (lm_0 hX) rfl in_X10 0 (by decide) wf_X10_47 tyX10 tyX10_ok nmX10 rfl rfl rfl rfl 5 rfl dX10_greenOf_2 ?_
  intro M1
  refine g_aload_n 0 rfl rfl 6 rfl dX10_greenOf_5 ?_
  refine g_iload_n 1 rfl rfl 7 rfl dX10_greenOf_6 ?_
  refine g_iload_n 2 rfl rfl 8 rfl dX10_greenOf_7 ?_
  refine p_cVI 0 [.int p0, .int p1] [] (c_X10_isPlan l hO hX M1 p0 p1) dX10_greenOf_8 uv_X10_165 rfl yk_X10_isPlan ⟨by decide, by decide⟩ (lm_0 hX).1 (lm_0 hX).2 rfl (Nat.le_of_ble_eq_true rfl) rfl 11 rfl ?_
  intro x2
  refine g_join 23 (fun a3 => [(0, .ref (wA Ω 0))]) (fun a3 => []) (fun a3 => M1) ?_ ?_
  · intro a3
    refine g_aload_n 0 rfl rfl 24 rfl dX10_greenOf_23 ?_
    refine g_iconst 1 25 rfl dX10_greenOf_24 (by decide) ?_
    refine g_cVI 0 [.int 1] [] (c_X10_raises l hO hX M1 1) dX10_greenOf_25 uv_X10_53 rfl yk_X10_raises ⟨by decide, by decide⟩ (lm_0 hX).1 (lm_0 hX).2 rfl (Nat.le_of_ble_eq_true rfl) rfl 28 rfl ?_
    intro x5 M6
    exact g_iret rfl dX10_greenOf_28
  · intro k4 hk4
    refine g_if_eq 23 (by decide) 14 rfl dX10_greenOf_11 ?_ ?_
    · refine g_sub [(0, .ref (wA Ω 0))] [0] rfl ?_
      exact hk4 ()
    · refine g_aload_n 0 rfl rfl 15 rfl dX10_greenOf_14 ?_
      refine g_iload_n 1 rfl rfl 16 rfl dX10_greenOf_15 ?_
      refine g_iload_n 3 rfl rfl 17 rfl dX10_greenOf_16 ?_
      refine p_cVI 0 [.int p0, .int p2] [] (c_X10_isGroup l hO hX M1 p0 p2) dX10_greenOf_17 uv_X10_105 rfl yk_X10_isGroup ⟨by decide, by decide⟩ (lm_0 hX).1 (lm_0 hX).2 rfl (Nat.le_of_ble_eq_true rfl) rfl 20 rfl ?_
      intro x7
      refine g_if_ne 29 (by decide) 23 rfl dX10_greenOf_20 ?_ ?_
      · refine g_sub [(0, .ref (wA Ω 0))] [0] rfl ?_
        exact hk4 ()
      · refine g_aload_n 0 rfl rfl 30 rfl dX10_greenOf_29 ?_
        refine g_iload_n 1 rfl rfl 31 rfl dX10_greenOf_30 ?_
        refine g_iload_n 2 rfl rfl 32 rfl dX10_greenOf_31 ?_
        refine g_iload_n 3 rfl rfl 33 rfl dX10_greenOf_32 ?_
        refine p_cVI 0 [.int p0, .int p1, .int p2] [] (c_X10_length l hO hX M1 p0 p1 p2) dX10_greenOf_33 uv_X10_96 rfl yk_X10_length ⟨by decide, by decide⟩ (lm_0 hX).1 (lm_0 hX).2 rfl (Nat.le_of_ble_eq_true rfl) rfl 36 rfl ?_
        intro x8
        refine g_if_ne 45 (by decide) 39 rfl dX10_greenOf_36 ?_ ?_
        · refine g_aload_n 0 rfl rfl 40 rfl dX10_greenOf_39 ?_
          refine g_iconst 2 41 rfl dX10_greenOf_40 (by decide) ?_
          refine g_cVI 0 [.int 2] [] (c_X10_raises l hO hX M1 2) dX10_greenOf_41 uv_X10_53 rfl yk_X10_raises ⟨by decide, by decide⟩ (lm_0 hX).1 (lm_0 hX).2 rfl (Nat.le_of_ble_eq_true rfl) rfl 44 rfl ?_
          intro x13 M14
          exact g_iret rfl dX10_greenOf_44
        · refine g_iload 4 rfl 47 rfl dX10_greenOf_45 ?_
          refine g_join 67 (fun a9 => []) (fun a9 => [.int a9]) (fun a9 => M1) ?_ ?_
          · intro a9
            exact g_iret rfl dX10_greenOf_67
          · intro k10 hk10
            refine g_if_eq 60 (by decide) 50 rfl dX10_greenOf_47 ?_ ?_
            · refine g_aload_n 0 rfl rfl 61 rfl dX10_greenOf_60 ?_
              refine g_iload_n 1 rfl rfl 62 rfl dX10_greenOf_61 ?_
              refine g_iload_n 2 rfl rfl 63 rfl dX10_greenOf_62 ?_
              refine g_iload_n 3 rfl rfl 64 rfl dX10_greenOf_63 ?_
              refine p_cVI 0 [.int p0, .int p1, .int p2] [] (c_X10_first l hO hX M1 p0 p1 p2) dX10_greenOf_64 uv_X10_93 rfl yk_X10_first ⟨by decide, by decide⟩ (lm_0 hX).1 (lm_0 hX).2 rfl (Nat.le_of_ble_eq_true rfl) rfl 67 rfl ?_
              intro x11
              refine g_sub [] [] rfl ?_
              exact hk10 x11
            · refine g_aload_n 0 rfl rfl 51 rfl dX10_greenOf_50 ?_
              refine g_iload_n 1 rfl rfl 52 rfl dX10_greenOf_51 ?_
              refine g_iload_n 2 rfl rfl 53 rfl dX10_greenOf_52 ?_
              refine g_iload_n 3 rfl rfl 54 rfl dX10_greenOf_53 ?_
              refine p_cVI 0 [.int p0, .int p1, .int p2] [] (c_X10_length l hO hX M1 p0 p1 p2) dX10_greenOf_54 uv_X10_96 rfl yk_X10_length ⟨by decide, by decide⟩ (lm_0 hX).1 (lm_0 hX).2 rfl (Nat.le_of_ble_eq_true rfl) rfl 57 rfl ?_
              intro x12
              refine g_goto 67 (by decide) dX10_greenOf_57 ?_
              refine g_sub [] [] rfl ?_
              exact hk10 x12
def fX10_refusal (M : Mem)  : Option (Int32 × Mem) := bnd (mset M 0 0 0) (fun M1 => jn (fun (a2 : Int32 × Mem) => some (a2.1, a2.2)) (fun k3 => if M1 0 11 = 0 then (cl (fX10_raises M1 1) (fun x4 M5 => k3 (x4, M5))) else (k3 (M1 0 11, M1))))
set_option maxRecDepth 100000 in
set_option maxHeartbeats 4000000 in
theorem c_X10_refusal {Ω : Wd} (l : Launch) (hO : OkW Ω) (hX : LM Ω)  (M : Mem)  : ∀ r, fX10_refusal M  = some r → Ct l yX10_refusal (.code yX10_refusal cX10_refusal 1 (some .int)) 1 21 Ω [.ref (wA Ω 0)] M (cvI r) := by
  refine ofG [(0, .ref (wA Ω 0))] hO (by decide) rfl (Nat.le_of_ble_eq_true rfl) rfl ?_
  intro p e s m args below meth c
  unfold fX10_refusal
  refine g_aload_n 0 rfl rfl 1 rfl dX10_refusal_0 ?_
  refine g_iconst 0 2 rfl dX10_refusal_1 (by decide) ?_
  refine w_put (lm_0 hX) rfl in_X10 0 (by decide) wf_X10_47 tyX10 tyX10_ok nmX10 rfl rfl rfl rfl 5 rfl dX10_refusal_2 ?_
  intro M1
  refine g_aload_n 0 rfl rfl 6 rfl dX10_refusal_5 ?_
  refine w_get (lm_0 hX) rfl in_X10 11 (by decide) wf_X10_50 rfl 9 rfl dX10_refusal_6 ?_
  refine g_join 24 (fun a2 => []) (fun a2 => [.int a2.1]) (fun a2 => a2.2) ?_ ?_
  · intro a2
    exact g_iret rfl dX10_refusal_24
  · intro k3 hk3
    refine g_if_ne 20 (by decide) 12 rfl dX10_refusal_9 ?_ ?_
    · refine g_aload_n 0 rfl rfl 13 rfl dX10_refusal_12 ?_
      refine g_iconst 1 14 rfl dX10_refusal_13 (by decide) ?_
      refine g_cVI 0 [.int 1] [] (c_X10_raises l hO hX M1 1) dX10_refusal_14 uv_X10_53 rfl yk_X10_raises ⟨by decide, by decide⟩ (lm_0 hX).1 (lm_0 hX).2 rfl (Nat.le_of_ble_eq_true rfl) rfl 17 rfl ?_
      intro x4 M5
      refine g_goto 24 (by decide) dX10_refusal_17 ?_
      refine g_sub [] [] rfl ?_
      exact hk3 (x4, M5)
    · refine g_aload_n 0 rfl rfl 21 rfl dX10_refusal_20 ?_
      refine w_get (lm_0 hX) rfl in_X10 11 (by decide) wf_X10_50 rfl 24 rfl dX10_refusal_21 ?_
      refine g_sub [] [] rfl ?_
      exact hk3 (M1 0 11, M1)
def fX10_isPossible_L1 (p0 : Int32) (M : Mem) (k2 : Unit → Option Int32) (k6 : Unit → Option Int32) (k8 : Int32 → Option Int32) (a7 : Int32) : Option Int32 := grd (inb 2 490) (if M 1 (2 : Int32).toNatClampNeg ≤ a7 then (k2 ()) else (clp (fX10_of M a7 (5 + p0)) (fun x9 => if x9 < 0 then (k6 ()) else (clp (fX10_of M a7 3) (fun x10 => clp (fX10_length M a7 x10 x9) (fun x11 => if x11 = 0 then (k6 ()) else (bnd (a7 + 1) (fun x12 => k8 x12))))))))
def fX10_isPossible (M : Mem) (p0 : Int32) : Option Int32 := jn (fun (a1 : Unit) => grd (inb 2 490) (jn (fun (a3 : Int32) => grd (isb a3) (some a3)) (fun k4 => if M 1 (2 : Int32).toNatClampNeg ≤ 0 then (k4 0) else (k4 1)))) (fun k2 => jn (fun (a5 : Unit) => some 0) (fun k6 => lp (fX10_isPossible_L1 p0 M k2 k6) FU 0))
set_option maxRecDepth 100000 in
set_option maxHeartbeats 4000000 in
theorem c_X10_isPossible {Ω : Wd} (l : Launch) (hO : OkW Ω) (hX : LM Ω)  (M : Mem) (p0 : Int32) : ∀ r, fX10_isPossible M p0 = some r → Ct l yX10_isPossible (.code yX10_isPossible cX10_isPossible 4 (some .boolean)) 3 67 Ω [.ref (wA Ω 0), .int p0] M ((cpI M) r) := by
  refine ofG [(0, .ref (wA Ω 0)), (1, .int p0)] hO (by decide) rfl (Nat.le_of_ble_eq_true rfl) rfl ?_
  intro p e s m args below meth c
  unfold fX10_isPossible
  refine g_iconst 0 1 rfl dX10_isPossible_0 (by decide) ?_
  refine g_istore_nA [(2, .int 0), (0, .ref (wA Ω 0)), (1, .int p0)] rfl 2 rfl dX10_isPossible_1 (by decide) rfl ?_
  refine g_join 48 (fun a1 => [(0, .ref (wA Ω 0))]) (fun a1 => []) (fun a1 => M) ?_ ?_
  · intro a1
    refine g_aload_n 0 rfl rfl 49 rfl dX10_isPossible_48 ?_
    refine w_getR (lm_0 hX) rfl in_X10 1 (by decide) wf_X10_9 1 rfl 52 rfl dX10_isPossible_49 ?_
    refine g_iconst 2 53 rfl dX10_isPossible_52 (by decide) ?_
    refine w_iald (lm_1 hX) 54 rfl dX10_isPossible_53 ?_
    refine g_join 62 (fun a3 => []) (fun a3 => [.int a3]) (fun a3 => M) ?_ ?_
    · intro a3
      exact p_bret rfl dX10_isPossible_62
    · intro k4 hk4
      refine g_if_le 61 (by decide) 57 rfl dX10_isPossible_54 ?_ ?_
      · refine g_iconst 0 62 rfl dX10_isPossible_61 (by decide) ?_
        refine g_sub [] [] rfl ?_
        exact hk4 0
      · refine g_iconst 1 58 rfl dX10_isPossible_57 (by decide) ?_
        refine g_goto 62 (by decide) dX10_isPossible_58 ?_
        refine g_sub [] [] rfl ?_
        exact hk4 1
  · intro k2 hk2
    refine g_join 40 (fun a5 => []) (fun a5 => []) (fun a5 => M) ?_ ?_
    · intro a5
      refine g_iconst 0 41 rfl dX10_isPossible_40 (by decide) ?_
      exact p_zret rfl rfl dX10_isPossible_41
    · intro k6 hk6
      refine g_sub [(0, .ref (wA Ω 0)), (1, .int p0), (2, .int 0)] [1, 2, 0] rfl ?_
      refine g_loop 2 (fun a7 => [(0, .ref (wA Ω 0)), (1, .int p0), (2, .int a7)]) (fun _ => []) (fun a7 => M) ?_ FU 0
      intro k8 hk8 a7
      unfold fX10_isPossible_L1
      refine g_iload_n 2 rfl rfl 3 rfl dX10_isPossible_2 ?_
      refine g_aload_n 0 rfl rfl 4 rfl dX10_isPossible_3 ?_
      refine w_getR (lm_0 hX) rfl in_X10 1 (by decide) wf_X10_9 1 rfl 7 rfl dX10_isPossible_4 ?_
      refine g_iconst 2 8 rfl dX10_isPossible_7 (by decide) ?_
      refine w_iald (lm_1 hX) 9 rfl dX10_isPossible_8 ?_
      refine g_icmp_ge 48 (by decide) 12 rfl dX10_isPossible_9 ?_ ?_
      · refine g_sub [(0, .ref (wA Ω 0))] [0] rfl ?_
        exact hk2 ()
      · refine g_aload_n 0 rfl rfl 13 rfl dX10_isPossible_12 ?_
        refine g_iload_n 2 rfl rfl 14 rfl dX10_isPossible_13 ?_
        refine g_iconst 5 15 rfl dX10_isPossible_14 (by decide) ?_
        refine g_iload_n 1 rfl rfl 16 rfl dX10_isPossible_15 ?_
        refine g_iadd 17 rfl dX10_isPossible_16 ?_
        refine p_cVI 0 [.int a7, .int (5 + p0)] [] (c_X10_of l hO hX M a7 (5 + p0)) dX10_isPossible_17 uv_X10_78 rfl yk_X10_of ⟨by decide, by decide⟩ (lm_0 hX).1 (lm_0 hX).2 rfl (Nat.le_of_ble_eq_true rfl) rfl 20 rfl ?_
        intro x9
        refine g_istore_nA [(3, .int x9), (0, .ref (wA Ω 0)), (1, .int p0), (2, .int a7)] rfl 21 rfl dX10_isPossible_20 (by decide) rfl ?_
        refine g_iload_n 0 rfl rfl 22 rfl dX10_isPossible_21 ?_
        refine g_if_lt 40 (by decide) 25 rfl dX10_isPossible_22 ?_ ?_
        · refine g_sub [] [] rfl ?_
          exact hk6 ()
        · refine g_aload_n 1 rfl rfl 26 rfl dX10_isPossible_25 ?_
          refine g_iload_n 3 rfl rfl 27 rfl dX10_isPossible_26 ?_
          refine g_aload_n 1 rfl rfl 28 rfl dX10_isPossible_27 ?_
          refine g_iload_n 3 rfl rfl 29 rfl dX10_isPossible_28 ?_
          refine g_iconst 3 30 rfl dX10_isPossible_29 (by decide) ?_
          refine p_cVI 0 [.int a7, .int 3] [.int a7, .ref (wA Ω 0)] (c_X10_of l hO hX M a7 3) dX10_isPossible_30 uv_X10_78 rfl yk_X10_of ⟨by decide, by decide⟩ (lm_0 hX).1 (lm_0 hX).2 rfl (Nat.le_of_ble_eq_true rfl) rfl 33 rfl ?_
          intro x10
          refine g_iload_n 0 rfl rfl 34 rfl dX10_isPossible_33 ?_
          refine p_cVI 0 [.int a7, .int x10, .int x9] [] (c_X10_length l hO hX M a7 x10 x9) dX10_isPossible_34 uv_X10_96 rfl yk_X10_length ⟨by decide, by decide⟩ (lm_0 hX).1 (lm_0 hX).2 rfl (Nat.le_of_ble_eq_true rfl) rfl 37 rfl ?_
          intro x11
          refine g_if_ne 42 (by decide) 40 rfl dX10_isPossible_37 ?_ ?_
          · refine g_sub [] [] rfl ?_
            exact hk6 ()
          · refine g_iinc 3 rfl 1 (by decide) (fun x12 => [(2, .int x12), (3, .int x9), (0, .ref (wA Ω 0)), (1, .int p0)]) 45 rfl dX10_isPossible_42 (by decide) (fun _ => rfl) ?_
            intro x12
            refine g_goto 2 (by decide) dX10_isPossible_45 ?_
            refine g_sub [(0, .ref (wA Ω 0)), (1, .int p0), (2, .int x12)] [2, 3, 0] rfl ?_
            exact hk8 x12
def fX10_waiting_L1 (p0 : Int32) (M : Mem) (k2 : (Int32 × Int32) → Option Int32) (a1 : Int32 × Int32) : Option Int32 := clp (fX10_of M p0 2) (fun x3 => if x3 ≤ a1.2 then (some a1.1) else (clp (fX10_groupOf M p0 a1.2 4) (fun x4 => jn (fun (a5 : Int32) => bnd (a1.2 + 1) (fun x7 => k2 (a5, x7))) (fun k6 => if x4 < 0 then (k6 a1.1) else (bnd (a1.1 + 1) (fun x8 => k6 x8))))))
def fX10_waiting (M : Mem) (p0 : Int32) : Option Int32 := lp (fX10_waiting_L1 p0 M) FU (0, 0)
set_option maxRecDepth 100000 in
set_option maxHeartbeats 4000000 in
theorem c_X10_waiting {Ω : Wd} (l : Launch) (hO : OkW Ω) (hX : LM Ω)  (M : Mem) (p0 : Int32) : ∀ r, fX10_waiting M p0 = some r → Ct l yX10_waiting (.code yX10_waiting cX10_waiting 4 (some .int)) 2 44 Ω [.ref (wA Ω 0), .int p0] M ((cpI M) r) := by
  refine ofG [(0, .ref (wA Ω 0)), (1, .int p0)] hO (by decide) rfl (Nat.le_of_ble_eq_true rfl) rfl ?_
  intro p e s m args below meth c
  unfold fX10_waiting
  refine g_iconst 0 1 rfl dX10_waiting_0 (by decide) ?_
  refine g_istore_nA [(2, .int 0), (0, .ref (wA Ω 0)), (1, .int p0)] rfl 2 rfl dX10_waiting_1 (by decide) rfl ?_
  refine g_iconst 0 3 rfl dX10_waiting_2 (by decide) ?_
  refine g_istore_nA [(3, .int 0), (2, .int 0), (0, .ref (wA Ω 0)), (1, .int p0)] rfl 4 rfl dX10_waiting_3 (by decide) rfl ?_
  refine g_sub [(0, .ref (wA Ω 0)), (1, .int p0), (2, .int 0), (3, .int 0)] [2, 3, 1, 0] rfl ?_
  refine g_loop 4 (fun a1 => [(0, .ref (wA Ω 0)), (1, .int p0), (2, .int a1.1), (3, .int a1.2)]) (fun _ => []) (fun a1 => M) ?_ FU (0, 0)
  intro k2 hk2 a1
  unfold fX10_waiting_L1
  refine g_iload_n 3 rfl rfl 5 rfl dX10_waiting_4 ?_
  refine g_aload_n 0 rfl rfl 6 rfl dX10_waiting_5 ?_
  refine g_iload_n 1 rfl rfl 7 rfl dX10_waiting_6 ?_
  refine g_iconst 2 8 rfl dX10_waiting_7 (by decide) ?_
  refine p_cVI 0 [.int p0, .int 2] [.int a1.2] (c_X10_of l hO hX M p0 2) dX10_waiting_8 uv_X10_78 rfl yk_X10_of ⟨by decide, by decide⟩ (lm_0 hX).1 (lm_0 hX).2 rfl (Nat.le_of_ble_eq_true rfl) rfl 11 rfl ?_
  intro x3
  refine g_icmp_ge 33 (by decide) 14 rfl dX10_waiting_11 ?_ ?_
  · refine g_iload_n 2 rfl rfl 34 rfl dX10_waiting_33 ?_
    exact p_iret rfl dX10_waiting_34
  · refine g_aload_n 0 rfl rfl 15 rfl dX10_waiting_14 ?_
    refine g_iload_n 1 rfl rfl 16 rfl dX10_waiting_15 ?_
    refine g_iload_n 3 rfl rfl 17 rfl dX10_waiting_16 ?_
    refine g_iconst 4 18 rfl dX10_waiting_17 (by decide) ?_
    refine p_cVI 0 [.int p0, .int a1.2, .int 4] [] (c_X10_groupOf l hO hX M p0 a1.2 4) dX10_waiting_18 uv_X10_89 rfl yk_X10_groupOf ⟨by decide, by decide⟩ (lm_0 hX).1 (lm_0 hX).2 rfl (Nat.le_of_ble_eq_true rfl) rfl 21 rfl ?_
    intro x4
    refine g_join 27 (fun a5 => [(0, .ref (wA Ω 0)), (1, .int p0), (2, .int a5), (3, .int a1.2)]) (fun a5 => []) (fun a5 => M) ?_ ?_
    · intro a5
      refine g_iinc 3 rfl 1 (by decide) (fun x7 => [(3, .int x7), (0, .ref (wA Ω 0)), (1, .int p0), (2, .int a5)]) 30 rfl dX10_waiting_27 (by decide) (fun _ => rfl) ?_
      intro x7
      refine g_goto 4 (by decide) dX10_waiting_30 ?_
      refine g_sub [(0, .ref (wA Ω 0)), (1, .int p0), (2, .int a5), (3, .int x7)] [1, 2, 3, 0] rfl ?_
      exact hk2 (a5, x7)
    · intro k6 hk6
      refine g_if_lt 27 (by decide) 24 rfl dX10_waiting_21 ?_ ?_
      · exact hk6 a1.1
      · refine g_iinc 2 rfl 1 (by decide) (fun x8 => [(2, .int x8), (0, .ref (wA Ω 0)), (1, .int p0), (3, .int a1.2)]) 27 rfl dX10_waiting_24 (by decide) (fun _ => rfl) ?_
        intro x8
        refine g_sub [(0, .ref (wA Ω 0)), (1, .int p0), (2, .int x8), (3, .int a1.2)] [1, 2, 0, 3] rfl ?_
        exact hk6 x8
def fX10_presses (M : Mem) (p0 : Int32) (p1 : Int32) : Option (Int32 × Mem) := clp (fX10_isGroup M p0 p1) (fun x1 => if x1 = 0 then (some (1, M)) else (clp (fX10_groupOf M p0 p1 2) (fun x2 => if x2 = 0 then (some (2, M)) else (clp (fX10_groupOf M p0 p1 4) (fun x3 => jn (fun (a4 : Mem) => clp (fX10_waiting a4 p0) (fun x6 => bnd (mset a4 0 21 x6) (fun M7 => some (0, M7)))) (fun k5 => if 0 ≤ x3 then (k5 M) else (clp (fX10_groupAt M p0 p1) (fun x8 => grd (inb 3 490) (grd (inb (x8 + 4) 490) (bnd (mset M 1 (x8 + 4).toNatClampNeg (M 1 (3 : Int32).toNatClampNeg)) (fun M9 => k5 M9)))))))))))
set_option maxRecDepth 100000 in
set_option maxHeartbeats 4000000 in
theorem c_X10_presses {Ω : Wd} (l : Launch) (hO : OkW Ω) (hX : LM Ω)  (M : Mem) (p0 : Int32) (p1 : Int32) : ∀ r, fX10_presses M p0 p1 = some r → Ct l yX10_presses (.code yX10_presses cX10_presses 3 (some .int)) 3 67 Ω [.ref (wA Ω 0), .int p0, .int p1] M (cvI r) := by
  refine ofG [(0, .ref (wA Ω 0)), (1, .int p0), (2, .int p1)] hO (by decide) rfl (Nat.le_of_ble_eq_true rfl) rfl ?_
  intro p e s m args below meth c
  unfold fX10_presses
  refine g_aload_n 0 rfl rfl 1 rfl dX10_presses_0 ?_
  refine g_iload_n 1 rfl rfl 2 rfl dX10_presses_1 ?_
  refine g_iload_n 2 rfl rfl 3 rfl dX10_presses_2 ?_
  refine p_cVI 0 [.int p0, .int p1] [] (c_X10_isGroup l hO hX M p0 p1) dX10_presses_3 uv_X10_105 rfl yk_X10_isGroup ⟨by decide, by decide⟩ (lm_0 hX).1 (lm_0 hX).2 rfl (Nat.le_of_ble_eq_true rfl) rfl 6 rfl ?_
  intro x1
  refine g_if_ne 11 (by decide) 9 rfl dX10_presses_6 ?_ ?_
  · refine g_iconst 1 10 rfl dX10_presses_9 (by decide) ?_
    exact g_iret rfl dX10_presses_10
  · refine g_aload_n 0 rfl rfl 12 rfl dX10_presses_11 ?_
    refine g_iload_n 1 rfl rfl 13 rfl dX10_presses_12 ?_
    refine g_iload_n 2 rfl rfl 14 rfl dX10_presses_13 ?_
    refine g_iconst 2 15 rfl dX10_presses_14 (by decide) ?_
    refine p_cVI 0 [.int p0, .int p1, .int 2] [] (c_X10_groupOf l hO hX M p0 p1 2) dX10_presses_15 uv_X10_89 rfl yk_X10_groupOf ⟨by decide, by decide⟩ (lm_0 hX).1 (lm_0 hX).2 rfl (Nat.le_of_ble_eq_true rfl) rfl 18 rfl ?_
    intro x2
    refine g_if_ne 23 (by decide) 21 rfl dX10_presses_18 ?_ ?_
    · refine g_iconst 2 22 rfl dX10_presses_21 (by decide) ?_
      exact g_iret rfl dX10_presses_22
    · refine g_aload_n 0 rfl rfl 24 rfl dX10_presses_23 ?_
      refine g_iload_n 1 rfl rfl 25 rfl dX10_presses_24 ?_
      refine g_iload_n 2 rfl rfl 26 rfl dX10_presses_25 ?_
      refine g_iconst 4 27 rfl dX10_presses_26 (by decide) ?_
      refine p_cVI 0 [.int p0, .int p1, .int 4] [] (c_X10_groupOf l hO hX M p0 p1 4) dX10_presses_27 uv_X10_89 rfl yk_X10_groupOf ⟨by decide, by decide⟩ (lm_0 hX).1 (lm_0 hX).2 rfl (Nat.le_of_ble_eq_true rfl) rfl 30 rfl ?_
      intro x3
      refine g_join 51 (fun a4 => [(0, .ref (wA Ω 0)), (1, .int p0)]) (fun a4 => []) (fun a4 => a4) ?_ ?_
      · intro a4
        refine g_aload_n 0 rfl rfl 52 rfl dX10_presses_51 ?_
        refine g_aload_n 0 rfl rfl 53 rfl dX10_presses_52 ?_
        refine g_iload_n 1 rfl rfl 54 rfl dX10_presses_53 ?_
        refine p_cVI 0 [.int p0] [.ref (wA Ω 0)] (c_X10_waiting l hO hX a4 p0) dX10_presses_54 uv_X10_210 rfl yk_X10_waiting ⟨by decide, by decide⟩ (lm_0 hX).1 (lm_0 hX).2 rfl (Nat.le_of_ble_eq_true rfl) rfl 57 rfl ?_
        intro x6
        refine w_put (lm_0 hX) rfl in_X10 21 (by decide) wf_X10_102 tyX10 tyX10_ok nmX10 rfl rfl rfl rfl 60 rfl dX10_presses_57 ?_
        intro M7
        refine g_iconst 0 61 rfl dX10_presses_60 (by decide) ?_
        exact g_iret rfl dX10_presses_61
      · intro k5 hk5
        refine g_if_ge 51 (by decide) 33 rfl dX10_presses_30 ?_ ?_
        · refine g_sub [(0, .ref (wA Ω 0)), (1, .int p0)] [0, 1] rfl ?_
          exact hk5 M
        · refine g_aload_n 0 rfl rfl 34 rfl dX10_presses_33 ?_
          refine w_getR (lm_0 hX) rfl in_X10 1 (by decide) wf_X10_9 1 rfl 37 rfl dX10_presses_34 ?_
          refine g_iload_n 1 rfl rfl 38 rfl dX10_presses_37 ?_
          refine g_iload_n 2 rfl rfl 39 rfl dX10_presses_38 ?_
          refine p_cSI [.int p0, .int p1] [.ref (wA Ω 1)] (c_X10_groupAt l hO M p0 p1) dX10_presses_39 us_X10_66 rfl yk_X10_groupAt ⟨by decide, by decide⟩ (Nat.le_of_ble_eq_true rfl) rfl 42 rfl ?_
          intro x8
          refine g_iconst 4 43 rfl dX10_presses_42 (by decide) ?_
          refine g_iadd 44 rfl dX10_presses_43 ?_
          refine g_aload_n 0 rfl rfl 45 rfl dX10_presses_44 ?_
          refine w_getR (lm_0 hX) rfl in_X10 1 (by decide) wf_X10_9 1 rfl 48 rfl dX10_presses_45 ?_
          refine g_iconst 3 49 rfl dX10_presses_48 (by decide) ?_
          refine w_iald (lm_1 hX) 50 rfl dX10_presses_49 ?_
          refine w_iast (lm_1 hX) 51 rfl dX10_presses_50 ?_
          intro M9
          refine g_sub [(0, .ref (wA Ω 0)), (1, .int p0)] [0, 1] rfl ?_
          exact hk5 M9
def fX10_press (M : Mem) (p0 : Int32) (p1 : Int32) : Option (Int32 × Mem) := cl (fX10_tries M) (fun u1 M2 => cl (fX10_presses M2 p0 p1) (fun x3 M4 => cl (fX10_ends M4 x3) (fun x5 M6 => some (x5, M6))))
set_option maxRecDepth 100000 in
set_option maxHeartbeats 4000000 in
theorem c_X10_press {Ω : Wd} (l : Launch) (hO : OkW Ω) (hX : LM Ω)  (M : Mem) (p0 : Int32) (p1 : Int32) : ∀ r, fX10_press M p0 p1 = some r → Ct l yX10_press (.code yX10_press cX10_press 3 (some .int)) 4 89 Ω [.ref (wA Ω 0), .int p0, .int p1] M (cvI r) := by
  refine ofG [(0, .ref (wA Ω 0)), (1, .int p0), (2, .int p1)] hO (by decide) rfl (Nat.le_of_ble_eq_true rfl) rfl ?_
  intro p e s m args below meth c
  unfold fX10_press
  refine g_aload_n 0 rfl rfl 1 rfl dX10_press_0 ?_
  refine g_cVV 0 [] [] (c_X10_tries l hO hX M) dX10_press_1 uv_X10_109 rfl yk_X10_tries ⟨by decide, by decide⟩ (lm_0 hX).1 (lm_0 hX).2 rfl (Nat.le_of_ble_eq_true rfl) rfl 4 rfl ?_
  intro u1 M2
  refine g_aload_n 0 rfl rfl 5 rfl dX10_press_4 ?_
  refine g_aload_n 0 rfl rfl 6 rfl dX10_press_5 ?_
  refine g_iload_n 1 rfl rfl 7 rfl dX10_press_6 ?_
  refine g_iload_n 2 rfl rfl 8 rfl dX10_press_7 ?_
  refine g_cVI 0 [.int p0, .int p1] [.ref (wA Ω 0)] (c_X10_presses l hO hX M2 p0 p1) dX10_press_8 uv_X10_213 rfl yk_X10_presses ⟨by decide, by decide⟩ (lm_0 hX).1 (lm_0 hX).2 rfl (Nat.le_of_ble_eq_true rfl) rfl 11 rfl ?_
  intro x3 M4
  refine g_cVI 0 [.int x3] [] (c_X10_ends l hO hX M4 x3) dX10_press_11 uv_X10_115 rfl yk_X10_ends ⟨by decide, by decide⟩ (lm_0 hX).1 (lm_0 hX).2 rfl (Nat.le_of_ble_eq_true rfl) rfl 14 rfl ?_
  intro x5 M6
  exact g_iret rfl dX10_press_14
def fX10_mount (M : Mem) (p0 : Int32) (p1 : Int32) (p2 : Int32) (p3 : Int32) : Option (Int32 × Mem) := bnd (mset M 0 0 0) (fun M1 => clp (fX10_isGroup M1 p0 p1) (fun x2 => jn (fun (a3 : Unit) => cl (fX10_raises M1 1) (fun x5 M6 => some (x5, M6))) (fun k4 => if x2 = 0 then (k4 ()) else (clp (fX10_in M1 p2 0 2) (fun x7 => if x7 = 0 then (k4 ()) else (clp (fX10_in M1 p3 0 3) (fun x8 => if x8 = 0 then (cl (fX10_raises M1 2) (fun x23 M24 => some (x23, M24))) else (clp (fX10_groupOf M1 p0 p1 0) (fun x9 => jn (fun (a10 : Unit) => cl (fX10_refuses M1 8 3) (fun x12 M13 => some (x12, M13))) (fun k11 => jn (fun (a14 : Unit) => jn (fun (a16 : Unit) => cl (fX10_changes M1) (fun u18 M19 => clp (fX10_groupAt M19 p0 p1) (fun x20 => grd (inb ((x20 + 6) + p2) 490) (bnd (mset M19 1 ((x20 + 6) + p2).toNatClampNeg p3) (fun M21 => clp (fX10_heads M21 p0 p1) (fun x22 => some (x22, M21))))))) (fun k17 => if x9 = 1 then (if p3 = 2 then (k17 ()) else (k11 ())) else (k17 ()))) (fun k15 => if x9 = 0 then (if 1 < p3 then (k11 ()) else (k15 ())) else (k15 ()))))))))))))
set_option maxRecDepth 100000 in
set_option maxHeartbeats 4000000 in
theorem c_X10_mount {Ω : Wd} (l : Launch) (hO : OkW Ω) (hX : LM Ω)  (M : Mem) (p0 : Int32) (p1 : Int32) (p2 : Int32) (p3 : Int32) : ∀ r, fX10_mount M p0 p1 p2 p3 = some r → Ct l yX10_mount (.code yX10_mount cX10_mount 6 (some .int)) 3 68 Ω [.ref (wA Ω 0), .int p0, .int p1, .int p2, .int p3] M (cvI r) := by
  refine ofG [(0, .ref (wA Ω 0)), (1, .int p0), (2, .int p1), (3, .int p2), (4, .int p3)] hO (by decide) rfl (Nat.le_of_ble_eq_true rfl) rfl ?_
  intro p e s m args below meth c
  unfold fX10_mount
  refine g_aload_n 0 rfl rfl 1 rfl dX10_mount_0 ?_
  refine g_iconst 0 2 rfl dX10_mount_1 (by decide) ?_
  refine w_put (lm_0 hX) rfl in_X10 0 (by decide) wf_X10_47 tyX10 tyX10_ok nmX10 rfl rfl rfl rfl 5 rfl dX10_mount_2 ?_
  intro M1
  refine g_aload_n 0 rfl rfl 6 rfl dX10_mount_5 ?_
  refine g_iload_n 1 rfl rfl 7 rfl dX10_mount_6 ?_
  refine g_iload_n 2 rfl rfl 8 rfl dX10_mount_7 ?_
  refine p_cVI 0 [.int p0, .int p1] [] (c_X10_isGroup l hO hX M1 p0 p1) dX10_mount_8 uv_X10_105 rfl yk_X10_isGroup ⟨by decide, by decide⟩ (lm_0 hX).1 (lm_0 hX).2 rfl (Nat.le_of_ble_eq_true rfl) rfl 11 rfl ?_
  intro x2
  refine g_join 23 (fun a3 => [(0, .ref (wA Ω 0))]) (fun a3 => []) (fun a3 => M1) ?_ ?_
  · intro a3
    refine g_aload_n 0 rfl rfl 24 rfl dX10_mount_23 ?_
    refine g_iconst 1 25 rfl dX10_mount_24 (by decide) ?_
    refine g_cVI 0 [.int 1] [] (c_X10_raises l hO hX M1 1) dX10_mount_25 uv_X10_53 rfl yk_X10_raises ⟨by decide, by decide⟩ (lm_0 hX).1 (lm_0 hX).2 rfl (Nat.le_of_ble_eq_true rfl) rfl 28 rfl ?_
    intro x5 M6
    exact g_iret rfl dX10_mount_28
  · intro k4 hk4
    refine g_if_eq 23 (by decide) 14 rfl dX10_mount_11 ?_ ?_
    · refine g_sub [(0, .ref (wA Ω 0))] [0] rfl ?_
      exact hk4 ()
    · refine g_iload_n 3 rfl rfl 15 rfl dX10_mount_14 ?_
      refine g_iconst 0 16 rfl dX10_mount_15 (by decide) ?_
      refine g_iconst 2 17 rfl dX10_mount_16 (by decide) ?_
      refine p_cSI [.int p2, .int 0, .int 2] [] (c_X10_in l hO M1 p2 0 2) dX10_mount_17 us_X10_70 rfl yk_X10_in ⟨by decide, by decide⟩ (Nat.le_of_ble_eq_true rfl) rfl 20 rfl ?_
      intro x7
      refine g_if_ne 29 (by decide) 23 rfl dX10_mount_20 ?_ ?_
      · refine g_sub [(0, .ref (wA Ω 0))] [0] rfl ?_
        exact hk4 ()
      · refine g_iload 4 rfl 31 rfl dX10_mount_29 ?_
        refine g_iconst 0 32 rfl dX10_mount_31 (by decide) ?_
        refine g_iconst 3 33 rfl dX10_mount_32 (by decide) ?_
        refine p_cSI [.int p3, .int 0, .int 3] [] (c_X10_in l hO M1 p3 0 3) dX10_mount_33 us_X10_70 rfl yk_X10_in ⟨by decide, by decide⟩ (Nat.le_of_ble_eq_true rfl) rfl 36 rfl ?_
        intro x8
        refine g_if_ne 45 (by decide) 39 rfl dX10_mount_36 ?_ ?_
        · refine g_aload_n 0 rfl rfl 40 rfl dX10_mount_39 ?_
          refine g_iconst 2 41 rfl dX10_mount_40 (by decide) ?_
          refine g_cVI 0 [.int 2] [] (c_X10_raises l hO hX M1 2) dX10_mount_41 uv_X10_53 rfl yk_X10_raises ⟨by decide, by decide⟩ (lm_0 hX).1 (lm_0 hX).2 rfl (Nat.le_of_ble_eq_true rfl) rfl 44 rfl ?_
          intro x23 M24
          exact g_iret rfl dX10_mount_44
        · refine g_aload_n 0 rfl rfl 46 rfl dX10_mount_45 ?_
          refine g_iload_n 1 rfl rfl 47 rfl dX10_mount_46 ?_
          refine g_iload_n 2 rfl rfl 48 rfl dX10_mount_47 ?_
          refine g_iconst 0 49 rfl dX10_mount_48 (by decide) ?_
          refine p_cVI 0 [.int p0, .int p1, .int 0] [] (c_X10_groupOf l hO hX M1 p0 p1 0) dX10_mount_49 uv_X10_89 rfl yk_X10_groupOf ⟨by decide, by decide⟩ (lm_0 hX).1 (lm_0 hX).2 rfl (Nat.le_of_ble_eq_true rfl) rfl 52 rfl ?_
          intro x9
          refine g_istoreA [(5, .int x9), (0, .ref (wA Ω 0)), (1, .int p0), (2, .int p1), (3, .int p2), (4, .int p3)] 54 rfl dX10_mount_52 (by decide) rfl ?_
          refine g_iload 0 rfl 56 rfl dX10_mount_54 ?_
          refine g_join 77 (fun a10 => [(0, .ref (wA Ω 0))]) (fun a10 => []) (fun a10 => M1) ?_ ?_
          · intro a10
            refine g_aload_n 0 rfl rfl 78 rfl dX10_mount_77 ?_
            refine g_bipush 8 80 rfl dX10_mount_78 (by decide) ?_
            refine g_iconst 3 81 rfl dX10_mount_80 (by decide) ?_
            refine g_cVI 0 [.int 8, .int 3] [] (c_X10_refuses l hO hX M1 8 3) dX10_mount_81 uv_X10_158 rfl yk_X10_refuses ⟨by decide, by decide⟩ (lm_0 hX).1 (lm_0 hX).2 rfl (Nat.le_of_ble_eq_true rfl) rfl 84 rfl ?_
            intro x12 M13
            exact g_iret rfl dX10_mount_84
          · intro k11 hk11
            refine g_join 65 (fun a14 => [(0, .ref (wA Ω 0)), (1, .int p0), (2, .int p1), (3, .int p2), (4, .int p3), (5, .int x9)]) (fun a14 => []) (fun a14 => M1) ?_ ?_
            · intro a14
              refine g_iload 5 rfl 67 rfl dX10_mount_65 ?_
              refine g_iconst 1 68 rfl dX10_mount_67 (by decide) ?_
              refine g_join 85 (fun a16 => [(0, .ref (wA Ω 0)), (1, .int p0), (2, .int p1), (3, .int p2), (4, .int p3)]) (fun a16 => []) (fun a16 => M1) ?_ ?_
              · intro a16
                refine g_aload_n 0 rfl rfl 86 rfl dX10_mount_85 ?_
                refine g_cVV 0 [] [] (c_X10_changes l hO hX M1) dX10_mount_86 uv_X10_99 rfl yk_X10_changes ⟨by decide, by decide⟩ (lm_0 hX).1 (lm_0 hX).2 rfl (Nat.le_of_ble_eq_true rfl) rfl 89 rfl ?_
                intro u18 M19
                refine g_aload_n 0 rfl rfl 90 rfl dX10_mount_89 ?_
                refine w_getR (lm_0 hX) rfl in_X10 1 (by decide) wf_X10_9 1 rfl 93 rfl dX10_mount_90 ?_
                refine g_iload_n 1 rfl rfl 94 rfl dX10_mount_93 ?_
                refine g_iload_n 2 rfl rfl 95 rfl dX10_mount_94 ?_
                refine p_cSI [.int p0, .int p1] [.ref (wA Ω 1)] (c_X10_groupAt l hO M19 p0 p1) dX10_mount_95 us_X10_66 rfl yk_X10_groupAt ⟨by decide, by decide⟩ (Nat.le_of_ble_eq_true rfl) rfl 98 rfl ?_
                intro x20
                refine g_bipush 6 100 rfl dX10_mount_98 (by decide) ?_
                refine g_iadd 101 rfl dX10_mount_100 ?_
                refine g_iload_n 3 rfl rfl 102 rfl dX10_mount_101 ?_
                refine g_iadd 103 rfl dX10_mount_102 ?_
                refine g_iload 4 rfl 105 rfl dX10_mount_103 ?_
                refine w_iast (lm_1 hX) 106 rfl dX10_mount_105 ?_
                intro M21
                refine g_aload_n 0 rfl rfl 107 rfl dX10_mount_106 ?_
                refine g_iload_n 1 rfl rfl 108 rfl dX10_mount_107 ?_
                refine g_iload_n 2 rfl rfl 109 rfl dX10_mount_108 ?_
                refine p_cVI 0 [.int p0, .int p1] [] (c_X10_heads l hO hX M21 p0 p1) dX10_mount_109 uv_X10_137 rfl yk_X10_heads ⟨by decide, by decide⟩ (lm_0 hX).1 (lm_0 hX).2 rfl (Nat.le_of_ble_eq_true rfl) rfl 112 rfl ?_
                intro x22
                exact g_iret rfl dX10_mount_112
              · intro k17 hk17
                refine g_icmp_ne 85 (by decide) 71 rfl dX10_mount_68 ?_ ?_
                · refine g_iload 4 rfl 73 rfl dX10_mount_71 ?_
                  refine g_iconst 2 74 rfl dX10_mount_73 (by decide) ?_
                  refine g_icmp_eq 85 (by decide) 77 rfl dX10_mount_74 ?_ ?_
                  · refine g_sub [(0, .ref (wA Ω 0)), (1, .int p0), (2, .int p1), (3, .int p2), (4, .int p3)] [0, 1, 2, 3, 4] rfl ?_
                    exact hk17 ()
                  · refine g_sub [(0, .ref (wA Ω 0))] [0] rfl ?_
                    exact hk11 ()
                · refine g_sub [(0, .ref (wA Ω 0)), (1, .int p0), (2, .int p1), (3, .int p2), (4, .int p3)] [0, 1, 2, 3, 4] rfl ?_
                  exact hk17 ()
            · intro k15 hk15
              refine g_if_ne 65 (by decide) 59 rfl dX10_mount_56 ?_ ?_
              · refine g_iload 5 rfl 61 rfl dX10_mount_59 ?_
                refine g_iconst 1 62 rfl dX10_mount_61 (by decide) ?_
                refine g_icmp_gt 77 (by decide) 65 rfl dX10_mount_62 ?_ ?_
                · refine g_sub [(0, .ref (wA Ω 0))] [1] rfl ?_
                  exact hk11 ()
                · refine g_sub [(0, .ref (wA Ω 0)), (1, .int p0), (2, .int p1), (3, .int p2), (4, .int p3), (5, .int x9)] [1, 2, 3, 4, 5, 0] rfl ?_
                  exact hk15 ()
              · refine g_sub [(0, .ref (wA Ω 0)), (1, .int p0), (2, .int p1), (3, .int p2), (4, .int p3), (5, .int x9)] [1, 2, 3, 4, 5, 0] rfl ?_
                exact hk15 ()
def fX10_account_L1 (p0 : Int32) (M1 : Mem) (a3 : Int32 × Int32) (k16 : Int32 → Option (Int32 × Mem)) (k19 : (Int32 × Int32) → Option (Int32 × Mem)) (a18 : Int32 × Int32) : Option (Int32 × Mem) := clp (fX10_of M1 a3.2 2) (fun x20 => if x20 ≤ a18.2 then (k16 a18.1) else (jn (fun (a21 : Int32) => jn (fun (a23 : Int32) => bnd (a18.2 + 1) (fun x25 => k19 (a23, x25))) (fun k24 => if p0 = 10 then (clp (fX10_heads M1 a3.2 a18.2) (fun x26 => bnd (a21 + x26) (fun x27 => k24 x27))) else (k24 a21))) (fun k22 => if p0 = 5 then (clp (fX10_groupOf M1 a3.2 a18.2 3) (fun x28 => bnd (a18.1 + x28) (fun x29 => k22 x29))) else (k22 a18.1))))
def fX10_account_L2 (p0 : Int32) (M1 : Mem) (k4 : (Int32 × Int32) → Option (Int32 × Mem)) (a3 : Int32 × Int32) : Option (Int32 × Mem) := grd (inb 2 490) (if M1 1 (2 : Int32).toNatClampNeg ≤ a3.2 then (some (a3.1, M1)) else (jn (fun (a5 : Int32) => jn (fun (a7 : Int32) => jn (fun (a9 : Int32) => jn (fun (a11 : Int32) => jn (fun (a13 : Int32) => jn (fun (a15 : Int32) => bnd (a3.2 + 1) (fun x17 => k4 (a15, x17))) (fun k16 => lp (fX10_account_L1 p0 M1 a3 k16) FU (a13, 0))) (fun k14 => if p0 = 9 then (clp (fX10_of M1 a3.2 4) (fun x30 => if x30 < 0 then (k14 a11) else (bnd (a11 + 1) (fun x31 => k14 x31)))) else (k14 a11))) (fun k12 => if p0 = 7 then (clp (fX10_waiting M1 a3.2) (fun x32 => bnd (a9 + x32) (fun x33 => k12 x33))) else (k12 a9))) (fun k10 => if p0 = 3 then (clp (fX10_greens M1 a3.2 0) (fun x34 => clp (fX10_greens M1 a3.2 1) (fun x35 => bnd (a7 + (x34 + x35)) (fun x36 => k10 x36)))) else (k10 a7))) (fun k8 => if p0 = 2 then (clp (fX10_conflicts M1 a3.2) (fun x37 => bnd (a5 + x37) (fun x38 => k8 x38))) else (k8 a5))) (fun k6 => if p0 = 1 then (clp (fX10_of M1 a3.2 2) (fun x39 => bnd (a3.1 + x39) (fun x40 => k6 x40))) else (k6 a3.1))))
def fX10_account_L3 (p0 : Int32) (M1 : Mem) (a41 : Int32 × Int32) (k54 : Int32 → Option (Int32 × Mem)) (k57 : (Int32 × Int32) → Option (Int32 × Mem)) (a56 : Int32 × Int32) : Option (Int32 × Mem) := clp (fX10_of M1 a41.2 2) (fun x58 => if x58 ≤ a56.2 then (k54 a56.1) else (jn (fun (a59 : Int32) => jn (fun (a61 : Int32) => bnd (a56.2 + 1) (fun x63 => k57 (a61, x63))) (fun k62 => if p0 = 10 then (clp (fX10_heads M1 a41.2 a56.2) (fun x64 => bnd (a59 + x64) (fun x65 => k62 x65))) else (k62 a59))) (fun k60 => if p0 = 5 then (clp (fX10_groupOf M1 a41.2 a56.2 3) (fun x66 => bnd (a56.1 + x66) (fun x67 => k60 x67))) else (k60 a56.1))))
def fX10_account_L4 (p0 : Int32) (M1 : Mem) (k42 : (Int32 × Int32) → Option (Int32 × Mem)) (a41 : Int32 × Int32) : Option (Int32 × Mem) := grd (inb 2 490) (if M1 1 (2 : Int32).toNatClampNeg ≤ a41.2 then (some (a41.1, M1)) else (jn (fun (a43 : Int32) => jn (fun (a45 : Int32) => jn (fun (a47 : Int32) => jn (fun (a49 : Int32) => jn (fun (a51 : Int32) => jn (fun (a53 : Int32) => bnd (a41.2 + 1) (fun x55 => k42 (a53, x55))) (fun k54 => lp (fX10_account_L3 p0 M1 a41 k54) FU (a51, 0))) (fun k52 => if p0 = 9 then (clp (fX10_of M1 a41.2 4) (fun x68 => if x68 < 0 then (k52 a49) else (bnd (a49 + 1) (fun x69 => k52 x69)))) else (k52 a49))) (fun k50 => if p0 = 7 then (clp (fX10_waiting M1 a41.2) (fun x70 => bnd (a47 + x70) (fun x71 => k50 x71))) else (k50 a47))) (fun k48 => if p0 = 3 then (clp (fX10_greens M1 a41.2 0) (fun x72 => clp (fX10_greens M1 a41.2 1) (fun x73 => bnd (a45 + (x72 + x73)) (fun x74 => k48 x74)))) else (k48 a45))) (fun k46 => if p0 = 2 then (clp (fX10_conflicts M1 a41.2) (fun x75 => bnd (a43 + x75) (fun x76 => k46 x76))) else (k46 a43))) (fun k44 => if p0 = 1 then (clp (fX10_of M1 a41.2 2) (fun x77 => bnd (a41.1 + x77) (fun x78 => k44 x78))) else (k44 a41.1))))
def fX10_account_L5 (p0 : Int32) (M1 : Mem) (a79 : Int32 × Int32) (k92 : Int32 → Option (Int32 × Mem)) (k95 : (Int32 × Int32) → Option (Int32 × Mem)) (a94 : Int32 × Int32) : Option (Int32 × Mem) := clp (fX10_of M1 a79.2 2) (fun x96 => if x96 ≤ a94.2 then (k92 a94.1) else (jn (fun (a97 : Int32) => jn (fun (a99 : Int32) => bnd (a94.2 + 1) (fun x101 => k95 (a99, x101))) (fun k100 => if p0 = 10 then (clp (fX10_heads M1 a79.2 a94.2) (fun x102 => bnd (a97 + x102) (fun x103 => k100 x103))) else (k100 a97))) (fun k98 => if p0 = 5 then (clp (fX10_groupOf M1 a79.2 a94.2 3) (fun x104 => bnd (a94.1 + x104) (fun x105 => k98 x105))) else (k98 a94.1))))
def fX10_account_L6 (p0 : Int32) (M1 : Mem) (k80 : (Int32 × Int32) → Option (Int32 × Mem)) (a79 : Int32 × Int32) : Option (Int32 × Mem) := grd (inb 2 490) (if M1 1 (2 : Int32).toNatClampNeg ≤ a79.2 then (some (a79.1, M1)) else (jn (fun (a81 : Int32) => jn (fun (a83 : Int32) => jn (fun (a85 : Int32) => jn (fun (a87 : Int32) => jn (fun (a89 : Int32) => jn (fun (a91 : Int32) => bnd (a79.2 + 1) (fun x93 => k80 (a91, x93))) (fun k92 => lp (fX10_account_L5 p0 M1 a79 k92) FU (a89, 0))) (fun k90 => if p0 = 9 then (clp (fX10_of M1 a79.2 4) (fun x106 => if x106 < 0 then (k90 a87) else (bnd (a87 + 1) (fun x107 => k90 x107)))) else (k90 a87))) (fun k88 => if p0 = 7 then (clp (fX10_waiting M1 a79.2) (fun x108 => bnd (a85 + x108) (fun x109 => k88 x109))) else (k88 a85))) (fun k86 => if p0 = 3 then (clp (fX10_greens M1 a79.2 0) (fun x110 => clp (fX10_greens M1 a79.2 1) (fun x111 => bnd (a83 + (x110 + x111)) (fun x112 => k86 x112)))) else (k86 a83))) (fun k84 => if p0 = 2 then (clp (fX10_conflicts M1 a79.2) (fun x113 => bnd (a81 + x113) (fun x114 => k84 x114))) else (k84 a81))) (fun k82 => if p0 = 1 then (clp (fX10_of M1 a79.2 2) (fun x115 => bnd (a79.1 + x115) (fun x116 => k82 x116))) else (k82 a79.1))))
def fX10_account_L7 (p0 : Int32) (M1 : Mem) (a117 : Int32 × Int32) (k130 : Int32 → Option (Int32 × Mem)) (k133 : (Int32 × Int32) → Option (Int32 × Mem)) (a132 : Int32 × Int32) : Option (Int32 × Mem) := clp (fX10_of M1 a117.2 2) (fun x134 => if x134 ≤ a132.2 then (k130 a132.1) else (jn (fun (a135 : Int32) => jn (fun (a137 : Int32) => bnd (a132.2 + 1) (fun x139 => k133 (a137, x139))) (fun k138 => if p0 = 10 then (clp (fX10_heads M1 a117.2 a132.2) (fun x140 => bnd (a135 + x140) (fun x141 => k138 x141))) else (k138 a135))) (fun k136 => if p0 = 5 then (clp (fX10_groupOf M1 a117.2 a132.2 3) (fun x142 => bnd (a132.1 + x142) (fun x143 => k136 x143))) else (k136 a132.1))))
def fX10_account_L8 (p0 : Int32) (M1 : Mem) (k118 : (Int32 × Int32) → Option (Int32 × Mem)) (a117 : Int32 × Int32) : Option (Int32 × Mem) := grd (inb 2 490) (if M1 1 (2 : Int32).toNatClampNeg ≤ a117.2 then (some (a117.1, M1)) else (jn (fun (a119 : Int32) => jn (fun (a121 : Int32) => jn (fun (a123 : Int32) => jn (fun (a125 : Int32) => jn (fun (a127 : Int32) => jn (fun (a129 : Int32) => bnd (a117.2 + 1) (fun x131 => k118 (a129, x131))) (fun k130 => lp (fX10_account_L7 p0 M1 a117 k130) FU (a127, 0))) (fun k128 => if p0 = 9 then (clp (fX10_of M1 a117.2 4) (fun x144 => if x144 < 0 then (k128 a125) else (bnd (a125 + 1) (fun x145 => k128 x145)))) else (k128 a125))) (fun k126 => if p0 = 7 then (clp (fX10_waiting M1 a117.2) (fun x146 => bnd (a123 + x146) (fun x147 => k126 x147))) else (k126 a123))) (fun k124 => if p0 = 3 then (clp (fX10_greens M1 a117.2 0) (fun x148 => clp (fX10_greens M1 a117.2 1) (fun x149 => bnd (a121 + (x148 + x149)) (fun x150 => k124 x150)))) else (k124 a121))) (fun k122 => if p0 = 2 then (clp (fX10_conflicts M1 a117.2) (fun x151 => bnd (a119 + x151) (fun x152 => k122 x152))) else (k122 a119))) (fun k120 => if p0 = 1 then (clp (fX10_of M1 a117.2 2) (fun x153 => bnd (a117.1 + x153) (fun x154 => k120 x154))) else (k120 a117.1))))
def fX10_account_L9 (p0 : Int32) (M1 : Mem) (a155 : Int32 × Int32) (k168 : Int32 → Option (Int32 × Mem)) (k171 : (Int32 × Int32) → Option (Int32 × Mem)) (a170 : Int32 × Int32) : Option (Int32 × Mem) := clp (fX10_of M1 a155.2 2) (fun x172 => if x172 ≤ a170.2 then (k168 a170.1) else (jn (fun (a173 : Int32) => jn (fun (a175 : Int32) => bnd (a170.2 + 1) (fun x177 => k171 (a175, x177))) (fun k176 => if p0 = 10 then (clp (fX10_heads M1 a155.2 a170.2) (fun x178 => bnd (a173 + x178) (fun x179 => k176 x179))) else (k176 a173))) (fun k174 => if p0 = 5 then (clp (fX10_groupOf M1 a155.2 a170.2 3) (fun x180 => bnd (a170.1 + x180) (fun x181 => k174 x181))) else (k174 a170.1))))
def fX10_account_L10 (p0 : Int32) (M1 : Mem) (k156 : (Int32 × Int32) → Option (Int32 × Mem)) (a155 : Int32 × Int32) : Option (Int32 × Mem) := grd (inb 2 490) (if M1 1 (2 : Int32).toNatClampNeg ≤ a155.2 then (some (a155.1, M1)) else (jn (fun (a157 : Int32) => jn (fun (a159 : Int32) => jn (fun (a161 : Int32) => jn (fun (a163 : Int32) => jn (fun (a165 : Int32) => jn (fun (a167 : Int32) => bnd (a155.2 + 1) (fun x169 => k156 (a167, x169))) (fun k168 => lp (fX10_account_L9 p0 M1 a155 k168) FU (a165, 0))) (fun k166 => if p0 = 9 then (clp (fX10_of M1 a155.2 4) (fun x182 => if x182 < 0 then (k166 a163) else (bnd (a163 + 1) (fun x183 => k166 x183)))) else (k166 a163))) (fun k164 => if p0 = 7 then (clp (fX10_waiting M1 a155.2) (fun x184 => bnd (a161 + x184) (fun x185 => k164 x185))) else (k164 a161))) (fun k162 => if p0 = 3 then (clp (fX10_greens M1 a155.2 0) (fun x186 => clp (fX10_greens M1 a155.2 1) (fun x187 => bnd (a159 + (x186 + x187)) (fun x188 => k162 x188)))) else (k162 a159))) (fun k160 => if p0 = 2 then (clp (fX10_conflicts M1 a155.2) (fun x189 => bnd (a157 + x189) (fun x190 => k160 x190))) else (k160 a157))) (fun k158 => if p0 = 1 then (clp (fX10_of M1 a155.2 2) (fun x191 => bnd (a155.1 + x191) (fun x192 => k158 x192))) else (k158 a155.1))))
def fX10_account_L11 (p0 : Int32) (M1 : Mem) (a193 : Int32 × Int32) (k206 : Int32 → Option (Int32 × Mem)) (k209 : (Int32 × Int32) → Option (Int32 × Mem)) (a208 : Int32 × Int32) : Option (Int32 × Mem) := clp (fX10_of M1 a193.2 2) (fun x210 => if x210 ≤ a208.2 then (k206 a208.1) else (jn (fun (a211 : Int32) => jn (fun (a213 : Int32) => bnd (a208.2 + 1) (fun x215 => k209 (a213, x215))) (fun k214 => if p0 = 10 then (clp (fX10_heads M1 a193.2 a208.2) (fun x216 => bnd (a211 + x216) (fun x217 => k214 x217))) else (k214 a211))) (fun k212 => if p0 = 5 then (clp (fX10_groupOf M1 a193.2 a208.2 3) (fun x218 => bnd (a208.1 + x218) (fun x219 => k212 x219))) else (k212 a208.1))))
def fX10_account_L12 (p0 : Int32) (M1 : Mem) (k194 : (Int32 × Int32) → Option (Int32 × Mem)) (a193 : Int32 × Int32) : Option (Int32 × Mem) := grd (inb 2 490) (if M1 1 (2 : Int32).toNatClampNeg ≤ a193.2 then (some (a193.1, M1)) else (jn (fun (a195 : Int32) => jn (fun (a197 : Int32) => jn (fun (a199 : Int32) => jn (fun (a201 : Int32) => jn (fun (a203 : Int32) => jn (fun (a205 : Int32) => bnd (a193.2 + 1) (fun x207 => k194 (a205, x207))) (fun k206 => lp (fX10_account_L11 p0 M1 a193 k206) FU (a203, 0))) (fun k204 => if p0 = 9 then (clp (fX10_of M1 a193.2 4) (fun x220 => if x220 < 0 then (k204 a201) else (bnd (a201 + 1) (fun x221 => k204 x221)))) else (k204 a201))) (fun k202 => if p0 = 7 then (clp (fX10_waiting M1 a193.2) (fun x222 => bnd (a199 + x222) (fun x223 => k202 x223))) else (k202 a199))) (fun k200 => if p0 = 3 then (clp (fX10_greens M1 a193.2 0) (fun x224 => clp (fX10_greens M1 a193.2 1) (fun x225 => bnd (a197 + (x224 + x225)) (fun x226 => k200 x226)))) else (k200 a197))) (fun k198 => if p0 = 2 then (clp (fX10_conflicts M1 a193.2) (fun x227 => bnd (a195 + x227) (fun x228 => k198 x228))) else (k198 a195))) (fun k196 => if p0 = 1 then (clp (fX10_of M1 a193.2 2) (fun x229 => bnd (a193.1 + x229) (fun x230 => k196 x230))) else (k196 a193.1))))
def fX10_account_L13 (p0 : Int32) (M1 : Mem) (a231 : Int32 × Int32) (k244 : Int32 → Option (Int32 × Mem)) (k247 : (Int32 × Int32) → Option (Int32 × Mem)) (a246 : Int32 × Int32) : Option (Int32 × Mem) := clp (fX10_of M1 a231.2 2) (fun x248 => if x248 ≤ a246.2 then (k244 a246.1) else (jn (fun (a249 : Int32) => jn (fun (a251 : Int32) => bnd (a246.2 + 1) (fun x253 => k247 (a251, x253))) (fun k252 => if p0 = 10 then (clp (fX10_heads M1 a231.2 a246.2) (fun x254 => bnd (a249 + x254) (fun x255 => k252 x255))) else (k252 a249))) (fun k250 => if p0 = 5 then (clp (fX10_groupOf M1 a231.2 a246.2 3) (fun x256 => bnd (a246.1 + x256) (fun x257 => k250 x257))) else (k250 a246.1))))
def fX10_account_L14 (p0 : Int32) (M1 : Mem) (k232 : (Int32 × Int32) → Option (Int32 × Mem)) (a231 : Int32 × Int32) : Option (Int32 × Mem) := grd (inb 2 490) (if M1 1 (2 : Int32).toNatClampNeg ≤ a231.2 then (some (a231.1, M1)) else (jn (fun (a233 : Int32) => jn (fun (a235 : Int32) => jn (fun (a237 : Int32) => jn (fun (a239 : Int32) => jn (fun (a241 : Int32) => jn (fun (a243 : Int32) => bnd (a231.2 + 1) (fun x245 => k232 (a243, x245))) (fun k244 => lp (fX10_account_L13 p0 M1 a231 k244) FU (a241, 0))) (fun k242 => if p0 = 9 then (clp (fX10_of M1 a231.2 4) (fun x258 => if x258 < 0 then (k242 a239) else (bnd (a239 + 1) (fun x259 => k242 x259)))) else (k242 a239))) (fun k240 => if p0 = 7 then (clp (fX10_waiting M1 a231.2) (fun x260 => bnd (a237 + x260) (fun x261 => k240 x261))) else (k240 a237))) (fun k238 => if p0 = 3 then (clp (fX10_greens M1 a231.2 0) (fun x262 => clp (fX10_greens M1 a231.2 1) (fun x263 => bnd (a235 + (x262 + x263)) (fun x264 => k238 x264)))) else (k238 a235))) (fun k236 => if p0 = 2 then (clp (fX10_conflicts M1 a231.2) (fun x265 => bnd (a233 + x265) (fun x266 => k236 x266))) else (k236 a233))) (fun k234 => if p0 = 1 then (clp (fX10_of M1 a231.2 2) (fun x267 => bnd (a231.1 + x267) (fun x268 => k234 x268))) else (k234 a231.1))))
def fX10_account_L15 (p0 : Int32) (M1 : Mem) (a269 : Int32 × Int32) (k282 : Int32 → Option (Int32 × Mem)) (k285 : (Int32 × Int32) → Option (Int32 × Mem)) (a284 : Int32 × Int32) : Option (Int32 × Mem) := clp (fX10_of M1 a269.2 2) (fun x286 => if x286 ≤ a284.2 then (k282 a284.1) else (jn (fun (a287 : Int32) => jn (fun (a289 : Int32) => bnd (a284.2 + 1) (fun x291 => k285 (a289, x291))) (fun k290 => if p0 = 10 then (clp (fX10_heads M1 a269.2 a284.2) (fun x292 => bnd (a287 + x292) (fun x293 => k290 x293))) else (k290 a287))) (fun k288 => if p0 = 5 then (clp (fX10_groupOf M1 a269.2 a284.2 3) (fun x294 => bnd (a284.1 + x294) (fun x295 => k288 x295))) else (k288 a284.1))))
def fX10_account_L16 (p0 : Int32) (M1 : Mem) (k270 : (Int32 × Int32) → Option (Int32 × Mem)) (a269 : Int32 × Int32) : Option (Int32 × Mem) := grd (inb 2 490) (if M1 1 (2 : Int32).toNatClampNeg ≤ a269.2 then (some (a269.1, M1)) else (jn (fun (a271 : Int32) => jn (fun (a273 : Int32) => jn (fun (a275 : Int32) => jn (fun (a277 : Int32) => jn (fun (a279 : Int32) => jn (fun (a281 : Int32) => bnd (a269.2 + 1) (fun x283 => k270 (a281, x283))) (fun k282 => lp (fX10_account_L15 p0 M1 a269 k282) FU (a279, 0))) (fun k280 => if p0 = 9 then (clp (fX10_of M1 a269.2 4) (fun x296 => if x296 < 0 then (k280 a277) else (bnd (a277 + 1) (fun x297 => k280 x297)))) else (k280 a277))) (fun k278 => if p0 = 7 then (clp (fX10_waiting M1 a269.2) (fun x298 => bnd (a275 + x298) (fun x299 => k278 x299))) else (k278 a275))) (fun k276 => if p0 = 3 then (clp (fX10_greens M1 a269.2 0) (fun x300 => clp (fX10_greens M1 a269.2 1) (fun x301 => bnd (a273 + (x300 + x301)) (fun x302 => k276 x302)))) else (k276 a273))) (fun k274 => if p0 = 2 then (clp (fX10_conflicts M1 a269.2) (fun x303 => bnd (a271 + x303) (fun x304 => k274 x304))) else (k274 a271))) (fun k272 => if p0 = 1 then (clp (fX10_of M1 a269.2 2) (fun x305 => bnd (a269.1 + x305) (fun x306 => k272 x306))) else (k272 a269.1))))
def fX10_account (M : Mem) (p0 : Int32) : Option (Int32 × Mem) := bnd (mset M 0 0 0) (fun M1 => clp (fX10_in M1 p0 0 14) (fun x2 => if x2 = 0 then (cl (fX10_raises M1 1) (fun x307 M308 => some (x307, M308))) else (if p0 = 0 then (grd (inb 2 490) (some (M1 1 (2 : Int32).toNatClampNeg, M1))) else (if p0 = 1 then (lp (fX10_account_L16 p0 M1) FU (0, 0)) else (if p0 = 2 then (lp (fX10_account_L14 p0 M1) FU (0, 0)) else (if p0 = 3 then (lp (fX10_account_L12 p0 M1) FU (0, 0)) else (if p0 = 4 then (grd (inb 3 490) (some (M1 1 (3 : Int32).toNatClampNeg, M1))) else (if p0 = 5 then (lp (fX10_account_L10 p0 M1) FU (0, 0)) else (if p0 = 6 then (grd (inb 4 490) (some (M1 1 (4 : Int32).toNatClampNeg, M1))) else (if p0 = 7 then (lp (fX10_account_L8 p0 M1) FU (0, 0)) else (if p0 = 8 then (grd (inb 5 490) (some (M1 1 (5 : Int32).toNatClampNeg, M1))) else (if p0 = 9 then (lp (fX10_account_L6 p0 M1) FU (0, 0)) else (if p0 = 10 then (lp (fX10_account_L4 p0 M1) FU (0, 0)) else (if p0 = 11 then (grd (inb 0 490) (some (M1 1 (0 : Int32).toNatClampNeg, M1))) else (if p0 = 12 then (grd (inb 1 490) (some (M1 1 (1 : Int32).toNatClampNeg, M1))) else (if p0 = 13 then (some (M1 0 3, M1)) else (if p0 = 14 then (some (M1 0 8, M1)) else (lp (fX10_account_L2 p0 M1) FU (0, 0)))))))))))))))))))
set_option maxRecDepth 100000 in
set_option maxHeartbeats 4000000 in
theorem c_X10_account {Ω : Wd} (l : Launch) (hO : OkW Ω) (hX : LM Ω)  (M : Mem) (p0 : Int32) : ∀ r, fX10_account M p0 = some r → Ct l yX10_account (.code yX10_account cX10_account 5 (some .int)) 4 91 Ω [.ref (wA Ω 0), .int p0] M (cvI r) := by
  refine ofG [(0, .ref (wA Ω 0)), (1, .int p0)] hO (by decide) rfl (Nat.le_of_ble_eq_true rfl) rfl ?_
  intro p e s m args below meth c
  unfold fX10_account
  refine g_aload_n 0 rfl rfl 1 rfl dX10_account_0 ?_
  refine g_iconst 0 2 rfl dX10_account_1 (by decide) ?_
  refine w_put (lm_0 hX) rfl in_X10 0 (by decide) wf_X10_47 tyX10 tyX10_ok nmX10 rfl rfl rfl rfl 5 rfl dX10_account_2 ?_
  intro M1
  refine g_iload_n 1 rfl rfl 6 rfl dX10_account_5 ?_
  refine g_iconst 0 7 rfl dX10_account_6 (by decide) ?_
  refine g_bipush 14 9 rfl dX10_account_7 (by decide) ?_
  refine p_cSI [.int p0, .int 0, .int 14] [] (c_X10_in l hO M1 p0 0 14) dX10_account_9 us_X10_70 rfl yk_X10_in ⟨by decide, by decide⟩ (Nat.le_of_ble_eq_true rfl) rfl 12 rfl ?_
  intro x2
  refine g_if_ne 21 (by decide) 15 rfl dX10_account_12 ?_ ?_
  · refine g_aload_n 0 rfl rfl 16 rfl dX10_account_15 ?_
    refine g_iconst 1 17 rfl dX10_account_16 (by decide) ?_
    refine g_cVI 0 [.int 1] [] (c_X10_raises l hO hX M1 1) dX10_account_17 uv_X10_53 rfl yk_X10_raises ⟨by decide, by decide⟩ (lm_0 hX).1 (lm_0 hX).2 rfl (Nat.le_of_ble_eq_true rfl) rfl 20 rfl ?_
    intro x307 M308
    exact g_iret rfl dX10_account_20
  · refine g_iload_n 1 rfl rfl 22 rfl dX10_account_21 ?_
    refine g_case ?_ ?_
    · intro h22_0
      refine g_tin (off := 74) 96 (by rw [h22_0]; decide) (by rw [h22_0]; decide) (by rw [h22_0]; rfl) (by decide) dX10_account_22 ?_
      refine g_aload_n 0 rfl rfl 97 rfl dX10_account_96 ?_
      refine w_getR (lm_0 hX) rfl in_X10 1 (by decide) wf_X10_9 1 rfl 100 rfl dX10_account_97 ?_
      refine g_iconst 2 101 rfl dX10_account_100 (by decide) ?_
      refine w_iald (lm_1 hX) 102 rfl dX10_account_101 ?_
      exact g_iret rfl dX10_account_102
    · intro h22_0
      refine g_case ?_ ?_
      · intro h22_1
        refine g_tin (off := 126) 148 (by rw [h22_1]; decide) (by rw [h22_1]; decide) (by rw [h22_1]; rfl) (by decide) dX10_account_22 ?_
        refine g_iconst 0 149 rfl dX10_account_148 (by decide) ?_
        refine g_istore_nA [(2, .int 0), (0, .ref (wA Ω 0)), (1, .int p0)] rfl 150 rfl dX10_account_149 (by decide) rfl ?_
        refine g_iconst 0 151 rfl dX10_account_150 (by decide) ?_
        refine g_istore_nA [(3, .int 0), (2, .int 0), (0, .ref (wA Ω 0)), (1, .int p0)] rfl 152 rfl dX10_account_151 (by decide) rfl ?_
        refine g_sub [(0, .ref (wA Ω 0)), (1, .int p0), (2, .int 0), (3, .int 0)] [2, 3, 1, 0] rfl ?_
        refine g_loop 152 (fun a269 => [(0, .ref (wA Ω 0)), (1, .int p0), (2, .int a269.1), (3, .int a269.2)]) (fun _ => []) (fun a269 => M1) ?_ FU (0, 0)
        intro k270 hk270 a269
        unfold fX10_account_L16
        refine g_iload_n 3 rfl rfl 153 rfl dX10_account_152 ?_
        refine g_aload_n 0 rfl rfl 154 rfl dX10_account_153 ?_
        refine w_getR (lm_0 hX) rfl in_X10 1 (by decide) wf_X10_9 1 rfl 157 rfl dX10_account_154 ?_
        refine g_iconst 2 158 rfl dX10_account_157 (by decide) ?_
        refine w_iald (lm_1 hX) 159 rfl dX10_account_158 ?_
        refine g_icmp_ge 300 (by decide) 162 rfl dX10_account_159 ?_ ?_
        · refine g_iload_n 2 rfl rfl 301 rfl dX10_account_300 ?_
          exact g_iret rfl dX10_account_301
        · refine g_iload_n 1 rfl rfl 163 rfl dX10_account_162 ?_
          refine g_iconst 1 164 rfl dX10_account_163 (by decide) ?_
          refine g_join 176 (fun a271 => [(0, .ref (wA Ω 0)), (1, .int p0), (2, .int a271), (3, .int a269.2)]) (fun a271 => []) (fun a271 => M1) ?_ ?_
          · intro a271
            refine g_iload_n 1 rfl rfl 177 rfl dX10_account_176 ?_
            refine g_iconst 2 178 rfl dX10_account_177 (by decide) ?_
            refine g_join 189 (fun a273 => [(0, .ref (wA Ω 0)), (1, .int p0), (2, .int a273), (3, .int a269.2)]) (fun a273 => []) (fun a273 => M1) ?_ ?_
            · intro a273
              refine g_iload_n 1 rfl rfl 190 rfl dX10_account_189 ?_
              refine g_iconst 3 191 rfl dX10_account_190 (by decide) ?_
              refine g_join 210 (fun a275 => [(0, .ref (wA Ω 0)), (1, .int p0), (2, .int a275), (3, .int a269.2)]) (fun a275 => []) (fun a275 => M1) ?_ ?_
              · intro a275
                refine g_iload_n 1 rfl rfl 211 rfl dX10_account_210 ?_
                refine g_bipush 7 213 rfl dX10_account_211 (by decide) ?_
                refine g_join 224 (fun a277 => [(0, .ref (wA Ω 0)), (1, .int p0), (2, .int a277), (3, .int a269.2)]) (fun a277 => []) (fun a277 => M1) ?_ ?_
                · intro a277
                  refine g_iload_n 1 rfl rfl 225 rfl dX10_account_224 ?_
                  refine g_bipush 9 227 rfl dX10_account_225 (by decide) ?_
                  refine g_join 242 (fun a279 => [(0, .ref (wA Ω 0)), (1, .int p0), (2, .int a279), (3, .int a269.2)]) (fun a279 => []) (fun a279 => M1) ?_ ?_
                  · intro a279
                    refine g_iconst 0 243 rfl dX10_account_242 (by decide) ?_
                    refine g_istoreA [(4, .int 0), (0, .ref (wA Ω 0)), (1, .int p0), (2, .int a279), (3, .int a269.2)] 245 rfl dX10_account_243 (by decide) rfl ?_
                    refine g_join 294 (fun a281 => [(0, .ref (wA Ω 0)), (1, .int p0), (2, .int a281), (3, .int a269.2)]) (fun a281 => []) (fun a281 => M1) ?_ ?_
                    · intro a281
                      refine g_iinc 3 rfl 1 (by decide) (fun x283 => [(3, .int x283), (0, .ref (wA Ω 0)), (1, .int p0), (2, .int a281)]) 297 rfl dX10_account_294 (by decide) (fun _ => rfl) ?_
                      intro x283
                      refine g_goto 152 (by decide) dX10_account_297 ?_
                      refine g_sub [(0, .ref (wA Ω 0)), (1, .int p0), (2, .int a281), (3, .int x283)] [1, 2, 3, 0] rfl ?_
                      exact hk270 (a281, x283)
                    · intro k282 hk282
                      refine g_sub [(0, .ref (wA Ω 0)), (1, .int p0), (2, .int a279), (3, .int a269.2), (4, .int 0)] [1, 2, 3, 4, 0] rfl ?_
                      refine g_loop 245 (fun a284 => [(0, .ref (wA Ω 0)), (1, .int p0), (2, .int a284.1), (3, .int a269.2), (4, .int a284.2)]) (fun _ => []) (fun a284 => M1) ?_ FU (a279, 0)
                      intro k285 hk285 a284
                      unfold fX10_account_L15
                      refine g_iload 4 rfl 247 rfl dX10_account_245 ?_
                      refine g_aload_n 0 rfl rfl 248 rfl dX10_account_247 ?_
                      refine g_iload_n 3 rfl rfl 249 rfl dX10_account_248 ?_
                      refine g_iconst 2 250 rfl dX10_account_249 (by decide) ?_
                      refine p_cVI 0 [.int a269.2, .int 2] [.int a284.2] (c_X10_of l hO hX M1 a269.2 2) dX10_account_250 uv_X10_78 rfl yk_X10_of ⟨by decide, by decide⟩ (lm_0 hX).1 (lm_0 hX).2 rfl (Nat.le_of_ble_eq_true rfl) rfl 253 rfl ?_
                      intro x286
                      refine g_icmp_ge 294 (by decide) 256 rfl dX10_account_253 ?_ ?_
                      · refine g_sub [(0, .ref (wA Ω 0)), (1, .int p0), (2, .int a284.1), (3, .int a269.2)] [0, 1, 2, 3] rfl ?_
                        exact hk282 a284.1
                      · refine g_iload_n 1 rfl rfl 257 rfl dX10_account_256 ?_
                        refine g_iconst 5 258 rfl dX10_account_257 (by decide) ?_
                        refine g_join 272 (fun a287 => [(0, .ref (wA Ω 0)), (1, .int p0), (2, .int a287), (3, .int a269.2), (4, .int a284.2)]) (fun a287 => []) (fun a287 => M1) ?_ ?_
                        · intro a287
                          refine g_iload_n 1 rfl rfl 273 rfl dX10_account_272 ?_
                          refine g_bipush 10 275 rfl dX10_account_273 (by decide) ?_
                          refine g_join 288 (fun a289 => [(0, .ref (wA Ω 0)), (1, .int p0), (2, .int a289), (3, .int a269.2), (4, .int a284.2)]) (fun a289 => []) (fun a289 => M1) ?_ ?_
                          · intro a289
                            refine g_iinc 4 rfl 1 (by decide) (fun x291 => [(4, .int x291), (0, .ref (wA Ω 0)), (1, .int p0), (2, .int a289), (3, .int a269.2)]) 291 rfl dX10_account_288 (by decide) (fun _ => rfl) ?_
                            intro x291
                            refine g_goto 245 (by decide) dX10_account_291 ?_
                            refine g_sub [(0, .ref (wA Ω 0)), (1, .int p0), (2, .int a289), (3, .int a269.2), (4, .int x291)] [1, 2, 3, 4, 0] rfl ?_
                            exact hk285 (a289, x291)
                          · intro k290 hk290
                            refine g_icmp_ne 288 (by decide) 278 rfl dX10_account_275 ?_ ?_
                            · refine g_iload_n 2 rfl rfl 279 rfl dX10_account_278 ?_
                              refine g_aload_n 0 rfl rfl 280 rfl dX10_account_279 ?_
                              refine g_iload_n 3 rfl rfl 281 rfl dX10_account_280 ?_
                              refine g_iload 4 rfl 283 rfl dX10_account_281 ?_
                              refine p_cVI 0 [.int a269.2, .int a284.2] [.int a287] (c_X10_heads l hO hX M1 a269.2 a284.2) dX10_account_283 uv_X10_137 rfl yk_X10_heads ⟨by decide, by decide⟩ (lm_0 hX).1 (lm_0 hX).2 rfl (Nat.le_of_ble_eq_true rfl) rfl 286 rfl ?_
                              intro x292
                              refine g_iadd 287 rfl dX10_account_286 ?_
                              refine g_istore_n (fun x293 => [(2, .int x293), (0, .ref (wA Ω 0)), (1, .int p0), (3, .int a269.2), (4, .int a284.2)]) rfl 288 rfl dX10_account_287 (by decide) (fun _ => rfl) ?_
                              intro x293
                              refine g_sub [(0, .ref (wA Ω 0)), (1, .int p0), (2, .int x293), (3, .int a269.2), (4, .int a284.2)] [1, 2, 0, 3, 4] rfl ?_
                              exact hk290 x293
                            · exact hk290 a287
                        · intro k288 hk288
                          refine g_icmp_ne 272 (by decide) 261 rfl dX10_account_258 ?_ ?_
                          · refine g_iload_n 2 rfl rfl 262 rfl dX10_account_261 ?_
                            refine g_aload_n 0 rfl rfl 263 rfl dX10_account_262 ?_
                            refine g_iload_n 3 rfl rfl 264 rfl dX10_account_263 ?_
                            refine g_iload 4 rfl 266 rfl dX10_account_264 ?_
                            refine g_iconst 3 267 rfl dX10_account_266 (by decide) ?_
                            refine p_cVI 0 [.int a269.2, .int a284.2, .int 3] [.int a284.1] (c_X10_groupOf l hO hX M1 a269.2 a284.2 3) dX10_account_267 uv_X10_89 rfl yk_X10_groupOf ⟨by decide, by decide⟩ (lm_0 hX).1 (lm_0 hX).2 rfl (Nat.le_of_ble_eq_true rfl) rfl 270 rfl ?_
                            intro x294
                            refine g_iadd 271 rfl dX10_account_270 ?_
                            refine g_istore_n (fun x295 => [(2, .int x295), (0, .ref (wA Ω 0)), (1, .int p0), (3, .int a269.2), (4, .int a284.2)]) rfl 272 rfl dX10_account_271 (by decide) (fun _ => rfl) ?_
                            intro x295
                            refine g_sub [(0, .ref (wA Ω 0)), (1, .int p0), (2, .int x295), (3, .int a269.2), (4, .int a284.2)] [1, 2, 0, 3, 4] rfl ?_
                            exact hk288 x295
                          · exact hk288 a284.1
                  · intro k280 hk280
                    refine g_icmp_ne 242 (by decide) 230 rfl dX10_account_227 ?_ ?_
                    · refine g_aload_n 0 rfl rfl 231 rfl dX10_account_230 ?_
                      refine g_iload_n 3 rfl rfl 232 rfl dX10_account_231 ?_
                      refine g_iconst 4 233 rfl dX10_account_232 (by decide) ?_
                      refine p_cVI 0 [.int a269.2, .int 4] [] (c_X10_of l hO hX M1 a269.2 4) dX10_account_233 uv_X10_78 rfl yk_X10_of ⟨by decide, by decide⟩ (lm_0 hX).1 (lm_0 hX).2 rfl (Nat.le_of_ble_eq_true rfl) rfl 236 rfl ?_
                      intro x296
                      refine g_if_lt 242 (by decide) 239 rfl dX10_account_236 ?_ ?_
                      · exact hk280 a277
                      · refine g_iinc 2 rfl 1 (by decide) (fun x297 => [(2, .int x297), (0, .ref (wA Ω 0)), (1, .int p0), (3, .int a269.2)]) 242 rfl dX10_account_239 (by decide) (fun _ => rfl) ?_
                        intro x297
                        refine g_sub [(0, .ref (wA Ω 0)), (1, .int p0), (2, .int x297), (3, .int a269.2)] [1, 2, 0, 3] rfl ?_
                        exact hk280 x297
                    · exact hk280 a277
                · intro k278 hk278
                  refine g_icmp_ne 224 (by decide) 216 rfl dX10_account_213 ?_ ?_
                  · refine g_iload_n 2 rfl rfl 217 rfl dX10_account_216 ?_
                    refine g_aload_n 0 rfl rfl 218 rfl dX10_account_217 ?_
                    refine g_iload_n 3 rfl rfl 219 rfl dX10_account_218 ?_
                    refine p_cVI 0 [.int a269.2] [.int a275] (c_X10_waiting l hO hX M1 a269.2) dX10_account_219 uv_X10_210 rfl yk_X10_waiting ⟨by decide, by decide⟩ (lm_0 hX).1 (lm_0 hX).2 rfl (Nat.le_of_ble_eq_true rfl) rfl 222 rfl ?_
                    intro x298
                    refine g_iadd 223 rfl dX10_account_222 ?_
                    refine g_istore_n (fun x299 => [(2, .int x299), (0, .ref (wA Ω 0)), (1, .int p0), (3, .int a269.2)]) rfl 224 rfl dX10_account_223 (by decide) (fun _ => rfl) ?_
                    intro x299
                    refine g_sub [(0, .ref (wA Ω 0)), (1, .int p0), (2, .int x299), (3, .int a269.2)] [1, 2, 0, 3] rfl ?_
                    exact hk278 x299
                  · exact hk278 a275
              · intro k276 hk276
                refine g_icmp_ne 210 (by decide) 194 rfl dX10_account_191 ?_ ?_
                · refine g_iload_n 2 rfl rfl 195 rfl dX10_account_194 ?_
                  refine g_aload_n 0 rfl rfl 196 rfl dX10_account_195 ?_
                  refine g_iload_n 3 rfl rfl 197 rfl dX10_account_196 ?_
                  refine g_iconst 0 198 rfl dX10_account_197 (by decide) ?_
                  refine p_cVI 0 [.int a269.2, .int 0] [.int a273] (c_X10_greens l hO hX M1 a269.2 0) dX10_account_198 uv_X10_174 rfl yk_X10_greens ⟨by decide, by decide⟩ (lm_0 hX).1 (lm_0 hX).2 rfl (Nat.le_of_ble_eq_true rfl) rfl 201 rfl ?_
                  intro x300
                  refine g_aload_n 0 rfl rfl 202 rfl dX10_account_201 ?_
                  refine g_iload_n 3 rfl rfl 203 rfl dX10_account_202 ?_
                  refine g_iconst 1 204 rfl dX10_account_203 (by decide) ?_
                  refine p_cVI 0 [.int a269.2, .int 1] [.int x300, .int a273] (c_X10_greens l hO hX M1 a269.2 1) dX10_account_204 uv_X10_174 rfl yk_X10_greens ⟨by decide, by decide⟩ (lm_0 hX).1 (lm_0 hX).2 rfl (Nat.le_of_ble_eq_true rfl) rfl 207 rfl ?_
                  intro x301
                  refine g_iadd 208 rfl dX10_account_207 ?_
                  refine g_iadd 209 rfl dX10_account_208 ?_
                  refine g_istore_n (fun x302 => [(2, .int x302), (0, .ref (wA Ω 0)), (1, .int p0), (3, .int a269.2)]) rfl 210 rfl dX10_account_209 (by decide) (fun _ => rfl) ?_
                  intro x302
                  refine g_sub [(0, .ref (wA Ω 0)), (1, .int p0), (2, .int x302), (3, .int a269.2)] [1, 2, 0, 3] rfl ?_
                  exact hk276 x302
                · exact hk276 a273
            · intro k274 hk274
              refine g_icmp_ne 189 (by decide) 181 rfl dX10_account_178 ?_ ?_
              · refine g_iload_n 2 rfl rfl 182 rfl dX10_account_181 ?_
                refine g_aload_n 0 rfl rfl 183 rfl dX10_account_182 ?_
                refine g_iload_n 3 rfl rfl 184 rfl dX10_account_183 ?_
                refine p_cVI 0 [.int a269.2] [.int a271] (c_X10_conflicts l hO hX M1 a269.2) dX10_account_184 uv_X10_127 rfl yk_X10_conflicts ⟨by decide, by decide⟩ (lm_0 hX).1 (lm_0 hX).2 rfl (Nat.le_of_ble_eq_true rfl) rfl 187 rfl ?_
                intro x303
                refine g_iadd 188 rfl dX10_account_187 ?_
                refine g_istore_n (fun x304 => [(2, .int x304), (0, .ref (wA Ω 0)), (1, .int p0), (3, .int a269.2)]) rfl 189 rfl dX10_account_188 (by decide) (fun _ => rfl) ?_
                intro x304
                refine g_sub [(0, .ref (wA Ω 0)), (1, .int p0), (2, .int x304), (3, .int a269.2)] [1, 2, 0, 3] rfl ?_
                exact hk274 x304
              · exact hk274 a271
          · intro k272 hk272
            refine g_icmp_ne 176 (by decide) 167 rfl dX10_account_164 ?_ ?_
            · refine g_iload_n 2 rfl rfl 168 rfl dX10_account_167 ?_
              refine g_aload_n 0 rfl rfl 169 rfl dX10_account_168 ?_
              refine g_iload_n 3 rfl rfl 170 rfl dX10_account_169 ?_
              refine g_iconst 2 171 rfl dX10_account_170 (by decide) ?_
              refine p_cVI 0 [.int a269.2, .int 2] [.int a269.1] (c_X10_of l hO hX M1 a269.2 2) dX10_account_171 uv_X10_78 rfl yk_X10_of ⟨by decide, by decide⟩ (lm_0 hX).1 (lm_0 hX).2 rfl (Nat.le_of_ble_eq_true rfl) rfl 174 rfl ?_
              intro x305
              refine g_iadd 175 rfl dX10_account_174 ?_
              refine g_istore_n (fun x306 => [(2, .int x306), (0, .ref (wA Ω 0)), (1, .int p0), (3, .int a269.2)]) rfl 176 rfl dX10_account_175 (by decide) (fun _ => rfl) ?_
              intro x306
              refine g_sub [(0, .ref (wA Ω 0)), (1, .int p0), (2, .int x306), (3, .int a269.2)] [1, 2, 0, 3] rfl ?_
              exact hk272 x306
            · exact hk272 a269.1
      · intro h22_1
        refine g_case ?_ ?_
        · intro h22_2
          refine g_tin (off := 126) 148 (by rw [h22_2]; decide) (by rw [h22_2]; decide) (by rw [h22_2]; rfl) (by decide) dX10_account_22 ?_
          refine g_iconst 0 149 rfl dX10_account_148 (by decide) ?_
          refine g_istore_nA [(2, .int 0), (0, .ref (wA Ω 0)), (1, .int p0)] rfl 150 rfl dX10_account_149 (by decide) rfl ?_
          refine g_iconst 0 151 rfl dX10_account_150 (by decide) ?_
          refine g_istore_nA [(3, .int 0), (2, .int 0), (0, .ref (wA Ω 0)), (1, .int p0)] rfl 152 rfl dX10_account_151 (by decide) rfl ?_
          refine g_sub [(0, .ref (wA Ω 0)), (1, .int p0), (2, .int 0), (3, .int 0)] [2, 3, 1, 0] rfl ?_
          refine g_loop 152 (fun a231 => [(0, .ref (wA Ω 0)), (1, .int p0), (2, .int a231.1), (3, .int a231.2)]) (fun _ => []) (fun a231 => M1) ?_ FU (0, 0)
          intro k232 hk232 a231
          unfold fX10_account_L14
          refine g_iload_n 3 rfl rfl 153 rfl dX10_account_152 ?_
          refine g_aload_n 0 rfl rfl 154 rfl dX10_account_153 ?_
          refine w_getR (lm_0 hX) rfl in_X10 1 (by decide) wf_X10_9 1 rfl 157 rfl dX10_account_154 ?_
          refine g_iconst 2 158 rfl dX10_account_157 (by decide) ?_
          refine w_iald (lm_1 hX) 159 rfl dX10_account_158 ?_
          refine g_icmp_ge 300 (by decide) 162 rfl dX10_account_159 ?_ ?_
          · refine g_iload_n 2 rfl rfl 301 rfl dX10_account_300 ?_
            exact g_iret rfl dX10_account_301
          · refine g_iload_n 1 rfl rfl 163 rfl dX10_account_162 ?_
            refine g_iconst 1 164 rfl dX10_account_163 (by decide) ?_
            refine g_join 176 (fun a233 => [(0, .ref (wA Ω 0)), (1, .int p0), (2, .int a233), (3, .int a231.2)]) (fun a233 => []) (fun a233 => M1) ?_ ?_
            · intro a233
              refine g_iload_n 1 rfl rfl 177 rfl dX10_account_176 ?_
              refine g_iconst 2 178 rfl dX10_account_177 (by decide) ?_
              refine g_join 189 (fun a235 => [(0, .ref (wA Ω 0)), (1, .int p0), (2, .int a235), (3, .int a231.2)]) (fun a235 => []) (fun a235 => M1) ?_ ?_
              · intro a235
                refine g_iload_n 1 rfl rfl 190 rfl dX10_account_189 ?_
                refine g_iconst 3 191 rfl dX10_account_190 (by decide) ?_
                refine g_join 210 (fun a237 => [(0, .ref (wA Ω 0)), (1, .int p0), (2, .int a237), (3, .int a231.2)]) (fun a237 => []) (fun a237 => M1) ?_ ?_
                · intro a237
                  refine g_iload_n 1 rfl rfl 211 rfl dX10_account_210 ?_
                  refine g_bipush 7 213 rfl dX10_account_211 (by decide) ?_
                  refine g_join 224 (fun a239 => [(0, .ref (wA Ω 0)), (1, .int p0), (2, .int a239), (3, .int a231.2)]) (fun a239 => []) (fun a239 => M1) ?_ ?_
                  · intro a239
                    refine g_iload_n 1 rfl rfl 225 rfl dX10_account_224 ?_
                    refine g_bipush 9 227 rfl dX10_account_225 (by decide) ?_
                    refine g_join 242 (fun a241 => [(0, .ref (wA Ω 0)), (1, .int p0), (2, .int a241), (3, .int a231.2)]) (fun a241 => []) (fun a241 => M1) ?_ ?_
                    · intro a241
                      refine g_iconst 0 243 rfl dX10_account_242 (by decide) ?_
                      refine g_istoreA [(4, .int 0), (0, .ref (wA Ω 0)), (1, .int p0), (2, .int a241), (3, .int a231.2)] 245 rfl dX10_account_243 (by decide) rfl ?_
                      refine g_join 294 (fun a243 => [(0, .ref (wA Ω 0)), (1, .int p0), (2, .int a243), (3, .int a231.2)]) (fun a243 => []) (fun a243 => M1) ?_ ?_
                      · intro a243
                        refine g_iinc 3 rfl 1 (by decide) (fun x245 => [(3, .int x245), (0, .ref (wA Ω 0)), (1, .int p0), (2, .int a243)]) 297 rfl dX10_account_294 (by decide) (fun _ => rfl) ?_
                        intro x245
                        refine g_goto 152 (by decide) dX10_account_297 ?_
                        refine g_sub [(0, .ref (wA Ω 0)), (1, .int p0), (2, .int a243), (3, .int x245)] [1, 2, 3, 0] rfl ?_
                        exact hk232 (a243, x245)
                      · intro k244 hk244
                        refine g_sub [(0, .ref (wA Ω 0)), (1, .int p0), (2, .int a241), (3, .int a231.2), (4, .int 0)] [1, 2, 3, 4, 0] rfl ?_
                        refine g_loop 245 (fun a246 => [(0, .ref (wA Ω 0)), (1, .int p0), (2, .int a246.1), (3, .int a231.2), (4, .int a246.2)]) (fun _ => []) (fun a246 => M1) ?_ FU (a241, 0)
                        intro k247 hk247 a246
                        unfold fX10_account_L13
                        refine g_iload 4 rfl 247 rfl dX10_account_245 ?_
                        refine g_aload_n 0 rfl rfl 248 rfl dX10_account_247 ?_
                        refine g_iload_n 3 rfl rfl 249 rfl dX10_account_248 ?_
                        refine g_iconst 2 250 rfl dX10_account_249 (by decide) ?_
                        refine p_cVI 0 [.int a231.2, .int 2] [.int a246.2] (c_X10_of l hO hX M1 a231.2 2) dX10_account_250 uv_X10_78 rfl yk_X10_of ⟨by decide, by decide⟩ (lm_0 hX).1 (lm_0 hX).2 rfl (Nat.le_of_ble_eq_true rfl) rfl 253 rfl ?_
                        intro x248
                        refine g_icmp_ge 294 (by decide) 256 rfl dX10_account_253 ?_ ?_
                        · refine g_sub [(0, .ref (wA Ω 0)), (1, .int p0), (2, .int a246.1), (3, .int a231.2)] [0, 1, 2, 3] rfl ?_
                          exact hk244 a246.1
                        · refine g_iload_n 1 rfl rfl 257 rfl dX10_account_256 ?_
                          refine g_iconst 5 258 rfl dX10_account_257 (by decide) ?_
                          refine g_join 272 (fun a249 => [(0, .ref (wA Ω 0)), (1, .int p0), (2, .int a249), (3, .int a231.2), (4, .int a246.2)]) (fun a249 => []) (fun a249 => M1) ?_ ?_
                          · intro a249
                            refine g_iload_n 1 rfl rfl 273 rfl dX10_account_272 ?_
                            refine g_bipush 10 275 rfl dX10_account_273 (by decide) ?_
                            refine g_join 288 (fun a251 => [(0, .ref (wA Ω 0)), (1, .int p0), (2, .int a251), (3, .int a231.2), (4, .int a246.2)]) (fun a251 => []) (fun a251 => M1) ?_ ?_
                            · intro a251
                              refine g_iinc 4 rfl 1 (by decide) (fun x253 => [(4, .int x253), (0, .ref (wA Ω 0)), (1, .int p0), (2, .int a251), (3, .int a231.2)]) 291 rfl dX10_account_288 (by decide) (fun _ => rfl) ?_
                              intro x253
                              refine g_goto 245 (by decide) dX10_account_291 ?_
                              refine g_sub [(0, .ref (wA Ω 0)), (1, .int p0), (2, .int a251), (3, .int a231.2), (4, .int x253)] [1, 2, 3, 4, 0] rfl ?_
                              exact hk247 (a251, x253)
                            · intro k252 hk252
                              refine g_icmp_ne 288 (by decide) 278 rfl dX10_account_275 ?_ ?_
                              · refine g_iload_n 2 rfl rfl 279 rfl dX10_account_278 ?_
                                refine g_aload_n 0 rfl rfl 280 rfl dX10_account_279 ?_
                                refine g_iload_n 3 rfl rfl 281 rfl dX10_account_280 ?_
                                refine g_iload 4 rfl 283 rfl dX10_account_281 ?_
                                refine p_cVI 0 [.int a231.2, .int a246.2] [.int a249] (c_X10_heads l hO hX M1 a231.2 a246.2) dX10_account_283 uv_X10_137 rfl yk_X10_heads ⟨by decide, by decide⟩ (lm_0 hX).1 (lm_0 hX).2 rfl (Nat.le_of_ble_eq_true rfl) rfl 286 rfl ?_
                                intro x254
                                refine g_iadd 287 rfl dX10_account_286 ?_
                                refine g_istore_n (fun x255 => [(2, .int x255), (0, .ref (wA Ω 0)), (1, .int p0), (3, .int a231.2), (4, .int a246.2)]) rfl 288 rfl dX10_account_287 (by decide) (fun _ => rfl) ?_
                                intro x255
                                refine g_sub [(0, .ref (wA Ω 0)), (1, .int p0), (2, .int x255), (3, .int a231.2), (4, .int a246.2)] [1, 2, 0, 3, 4] rfl ?_
                                exact hk252 x255
                              · exact hk252 a249
                          · intro k250 hk250
                            refine g_icmp_ne 272 (by decide) 261 rfl dX10_account_258 ?_ ?_
                            · refine g_iload_n 2 rfl rfl 262 rfl dX10_account_261 ?_
                              refine g_aload_n 0 rfl rfl 263 rfl dX10_account_262 ?_
                              refine g_iload_n 3 rfl rfl 264 rfl dX10_account_263 ?_
                              refine g_iload 4 rfl 266 rfl dX10_account_264 ?_
                              refine g_iconst 3 267 rfl dX10_account_266 (by decide) ?_
                              refine p_cVI 0 [.int a231.2, .int a246.2, .int 3] [.int a246.1] (c_X10_groupOf l hO hX M1 a231.2 a246.2 3) dX10_account_267 uv_X10_89 rfl yk_X10_groupOf ⟨by decide, by decide⟩ (lm_0 hX).1 (lm_0 hX).2 rfl (Nat.le_of_ble_eq_true rfl) rfl 270 rfl ?_
                              intro x256
                              refine g_iadd 271 rfl dX10_account_270 ?_
                              refine g_istore_n (fun x257 => [(2, .int x257), (0, .ref (wA Ω 0)), (1, .int p0), (3, .int a231.2), (4, .int a246.2)]) rfl 272 rfl dX10_account_271 (by decide) (fun _ => rfl) ?_
                              intro x257
                              refine g_sub [(0, .ref (wA Ω 0)), (1, .int p0), (2, .int x257), (3, .int a231.2), (4, .int a246.2)] [1, 2, 0, 3, 4] rfl ?_
                              exact hk250 x257
                            · exact hk250 a246.1
                    · intro k242 hk242
                      refine g_icmp_ne 242 (by decide) 230 rfl dX10_account_227 ?_ ?_
                      · refine g_aload_n 0 rfl rfl 231 rfl dX10_account_230 ?_
                        refine g_iload_n 3 rfl rfl 232 rfl dX10_account_231 ?_
                        refine g_iconst 4 233 rfl dX10_account_232 (by decide) ?_
                        refine p_cVI 0 [.int a231.2, .int 4] [] (c_X10_of l hO hX M1 a231.2 4) dX10_account_233 uv_X10_78 rfl yk_X10_of ⟨by decide, by decide⟩ (lm_0 hX).1 (lm_0 hX).2 rfl (Nat.le_of_ble_eq_true rfl) rfl 236 rfl ?_
                        intro x258
                        refine g_if_lt 242 (by decide) 239 rfl dX10_account_236 ?_ ?_
                        · exact hk242 a239
                        · refine g_iinc 2 rfl 1 (by decide) (fun x259 => [(2, .int x259), (0, .ref (wA Ω 0)), (1, .int p0), (3, .int a231.2)]) 242 rfl dX10_account_239 (by decide) (fun _ => rfl) ?_
                          intro x259
                          refine g_sub [(0, .ref (wA Ω 0)), (1, .int p0), (2, .int x259), (3, .int a231.2)] [1, 2, 0, 3] rfl ?_
                          exact hk242 x259
                      · exact hk242 a239
                  · intro k240 hk240
                    refine g_icmp_ne 224 (by decide) 216 rfl dX10_account_213 ?_ ?_
                    · refine g_iload_n 2 rfl rfl 217 rfl dX10_account_216 ?_
                      refine g_aload_n 0 rfl rfl 218 rfl dX10_account_217 ?_
                      refine g_iload_n 3 rfl rfl 219 rfl dX10_account_218 ?_
                      refine p_cVI 0 [.int a231.2] [.int a237] (c_X10_waiting l hO hX M1 a231.2) dX10_account_219 uv_X10_210 rfl yk_X10_waiting ⟨by decide, by decide⟩ (lm_0 hX).1 (lm_0 hX).2 rfl (Nat.le_of_ble_eq_true rfl) rfl 222 rfl ?_
                      intro x260
                      refine g_iadd 223 rfl dX10_account_222 ?_
                      refine g_istore_n (fun x261 => [(2, .int x261), (0, .ref (wA Ω 0)), (1, .int p0), (3, .int a231.2)]) rfl 224 rfl dX10_account_223 (by decide) (fun _ => rfl) ?_
                      intro x261
                      refine g_sub [(0, .ref (wA Ω 0)), (1, .int p0), (2, .int x261), (3, .int a231.2)] [1, 2, 0, 3] rfl ?_
                      exact hk240 x261
                    · exact hk240 a237
                · intro k238 hk238
                  refine g_icmp_ne 210 (by decide) 194 rfl dX10_account_191 ?_ ?_
                  · refine g_iload_n 2 rfl rfl 195 rfl dX10_account_194 ?_
                    refine g_aload_n 0 rfl rfl 196 rfl dX10_account_195 ?_
                    refine g_iload_n 3 rfl rfl 197 rfl dX10_account_196 ?_
                    refine g_iconst 0 198 rfl dX10_account_197 (by decide) ?_
                    refine p_cVI 0 [.int a231.2, .int 0] [.int a235] (c_X10_greens l hO hX M1 a231.2 0) dX10_account_198 uv_X10_174 rfl yk_X10_greens ⟨by decide, by decide⟩ (lm_0 hX).1 (lm_0 hX).2 rfl (Nat.le_of_ble_eq_true rfl) rfl 201 rfl ?_
                    intro x262
                    refine g_aload_n 0 rfl rfl 202 rfl dX10_account_201 ?_
                    refine g_iload_n 3 rfl rfl 203 rfl dX10_account_202 ?_
                    refine g_iconst 1 204 rfl dX10_account_203 (by decide) ?_
                    refine p_cVI 0 [.int a231.2, .int 1] [.int x262, .int a235] (c_X10_greens l hO hX M1 a231.2 1) dX10_account_204 uv_X10_174 rfl yk_X10_greens ⟨by decide, by decide⟩ (lm_0 hX).1 (lm_0 hX).2 rfl (Nat.le_of_ble_eq_true rfl) rfl 207 rfl ?_
                    intro x263
                    refine g_iadd 208 rfl dX10_account_207 ?_
                    refine g_iadd 209 rfl dX10_account_208 ?_
                    refine g_istore_n (fun x264 => [(2, .int x264), (0, .ref (wA Ω 0)), (1, .int p0), (3, .int a231.2)]) rfl 210 rfl dX10_account_209 (by decide) (fun _ => rfl) ?_
                    intro x264
                    refine g_sub [(0, .ref (wA Ω 0)), (1, .int p0), (2, .int x264), (3, .int a231.2)] [1, 2, 0, 3] rfl ?_
                    exact hk238 x264
                  · exact hk238 a235
              · intro k236 hk236
                refine g_icmp_ne 189 (by decide) 181 rfl dX10_account_178 ?_ ?_
                · refine g_iload_n 2 rfl rfl 182 rfl dX10_account_181 ?_
                  refine g_aload_n 0 rfl rfl 183 rfl dX10_account_182 ?_
                  refine g_iload_n 3 rfl rfl 184 rfl dX10_account_183 ?_
                  refine p_cVI 0 [.int a231.2] [.int a233] (c_X10_conflicts l hO hX M1 a231.2) dX10_account_184 uv_X10_127 rfl yk_X10_conflicts ⟨by decide, by decide⟩ (lm_0 hX).1 (lm_0 hX).2 rfl (Nat.le_of_ble_eq_true rfl) rfl 187 rfl ?_
                  intro x265
                  refine g_iadd 188 rfl dX10_account_187 ?_
                  refine g_istore_n (fun x266 => [(2, .int x266), (0, .ref (wA Ω 0)), (1, .int p0), (3, .int a231.2)]) rfl 189 rfl dX10_account_188 (by decide) (fun _ => rfl) ?_
                  intro x266
                  refine g_sub [(0, .ref (wA Ω 0)), (1, .int p0), (2, .int x266), (3, .int a231.2)] [1, 2, 0, 3] rfl ?_
                  exact hk236 x266
                · exact hk236 a233
            · intro k234 hk234
              refine g_icmp_ne 176 (by decide) 167 rfl dX10_account_164 ?_ ?_
              · refine g_iload_n 2 rfl rfl 168 rfl dX10_account_167 ?_
                refine g_aload_n 0 rfl rfl 169 rfl dX10_account_168 ?_
                refine g_iload_n 3 rfl rfl 170 rfl dX10_account_169 ?_
                refine g_iconst 2 171 rfl dX10_account_170 (by decide) ?_
                refine p_cVI 0 [.int a231.2, .int 2] [.int a231.1] (c_X10_of l hO hX M1 a231.2 2) dX10_account_171 uv_X10_78 rfl yk_X10_of ⟨by decide, by decide⟩ (lm_0 hX).1 (lm_0 hX).2 rfl (Nat.le_of_ble_eq_true rfl) rfl 174 rfl ?_
                intro x267
                refine g_iadd 175 rfl dX10_account_174 ?_
                refine g_istore_n (fun x268 => [(2, .int x268), (0, .ref (wA Ω 0)), (1, .int p0), (3, .int a231.2)]) rfl 176 rfl dX10_account_175 (by decide) (fun _ => rfl) ?_
                intro x268
                refine g_sub [(0, .ref (wA Ω 0)), (1, .int p0), (2, .int x268), (3, .int a231.2)] [1, 2, 0, 3] rfl ?_
                exact hk234 x268
              · exact hk234 a231.1
        · intro h22_2
          refine g_case ?_ ?_
          · intro h22_3
            refine g_tin (off := 126) 148 (by rw [h22_3]; decide) (by rw [h22_3]; decide) (by rw [h22_3]; rfl) (by decide) dX10_account_22 ?_
            refine g_iconst 0 149 rfl dX10_account_148 (by decide) ?_
            refine g_istore_nA [(2, .int 0), (0, .ref (wA Ω 0)), (1, .int p0)] rfl 150 rfl dX10_account_149 (by decide) rfl ?_
            refine g_iconst 0 151 rfl dX10_account_150 (by decide) ?_
            refine g_istore_nA [(3, .int 0), (2, .int 0), (0, .ref (wA Ω 0)), (1, .int p0)] rfl 152 rfl dX10_account_151 (by decide) rfl ?_
            refine g_sub [(0, .ref (wA Ω 0)), (1, .int p0), (2, .int 0), (3, .int 0)] [2, 3, 1, 0] rfl ?_
            refine g_loop 152 (fun a193 => [(0, .ref (wA Ω 0)), (1, .int p0), (2, .int a193.1), (3, .int a193.2)]) (fun _ => []) (fun a193 => M1) ?_ FU (0, 0)
            intro k194 hk194 a193
            unfold fX10_account_L12
            refine g_iload_n 3 rfl rfl 153 rfl dX10_account_152 ?_
            refine g_aload_n 0 rfl rfl 154 rfl dX10_account_153 ?_
            refine w_getR (lm_0 hX) rfl in_X10 1 (by decide) wf_X10_9 1 rfl 157 rfl dX10_account_154 ?_
            refine g_iconst 2 158 rfl dX10_account_157 (by decide) ?_
            refine w_iald (lm_1 hX) 159 rfl dX10_account_158 ?_
            refine g_icmp_ge 300 (by decide) 162 rfl dX10_account_159 ?_ ?_
            · refine g_iload_n 2 rfl rfl 301 rfl dX10_account_300 ?_
              exact g_iret rfl dX10_account_301
            · refine g_iload_n 1 rfl rfl 163 rfl dX10_account_162 ?_
              refine g_iconst 1 164 rfl dX10_account_163 (by decide) ?_
              refine g_join 176 (fun a195 => [(0, .ref (wA Ω 0)), (1, .int p0), (2, .int a195), (3, .int a193.2)]) (fun a195 => []) (fun a195 => M1) ?_ ?_
              · intro a195
                refine g_iload_n 1 rfl rfl 177 rfl dX10_account_176 ?_
                refine g_iconst 2 178 rfl dX10_account_177 (by decide) ?_
                refine g_join 189 (fun a197 => [(0, .ref (wA Ω 0)), (1, .int p0), (2, .int a197), (3, .int a193.2)]) (fun a197 => []) (fun a197 => M1) ?_ ?_
                · intro a197
                  refine g_iload_n 1 rfl rfl 190 rfl dX10_account_189 ?_
                  refine g_iconst 3 191 rfl dX10_account_190 (by decide) ?_
                  refine g_join 210 (fun a199 => [(0, .ref (wA Ω 0)), (1, .int p0), (2, .int a199), (3, .int a193.2)]) (fun a199 => []) (fun a199 => M1) ?_ ?_
                  · intro a199
                    refine g_iload_n 1 rfl rfl 211 rfl dX10_account_210 ?_
                    refine g_bipush 7 213 rfl dX10_account_211 (by decide) ?_
                    refine g_join 224 (fun a201 => [(0, .ref (wA Ω 0)), (1, .int p0), (2, .int a201), (3, .int a193.2)]) (fun a201 => []) (fun a201 => M1) ?_ ?_
                    · intro a201
                      refine g_iload_n 1 rfl rfl 225 rfl dX10_account_224 ?_
                      refine g_bipush 9 227 rfl dX10_account_225 (by decide) ?_
                      refine g_join 242 (fun a203 => [(0, .ref (wA Ω 0)), (1, .int p0), (2, .int a203), (3, .int a193.2)]) (fun a203 => []) (fun a203 => M1) ?_ ?_
                      · intro a203
                        refine g_iconst 0 243 rfl dX10_account_242 (by decide) ?_
                        refine g_istoreA [(4, .int 0), (0, .ref (wA Ω 0)), (1, .int p0), (2, .int a203), (3, .int a193.2)] 245 rfl dX10_account_243 (by decide) rfl ?_
                        refine g_join 294 (fun a205 => [(0, .ref (wA Ω 0)), (1, .int p0), (2, .int a205), (3, .int a193.2)]) (fun a205 => []) (fun a205 => M1) ?_ ?_
                        · intro a205
                          refine g_iinc 3 rfl 1 (by decide) (fun x207 => [(3, .int x207), (0, .ref (wA Ω 0)), (1, .int p0), (2, .int a205)]) 297 rfl dX10_account_294 (by decide) (fun _ => rfl) ?_
                          intro x207
                          refine g_goto 152 (by decide) dX10_account_297 ?_
                          refine g_sub [(0, .ref (wA Ω 0)), (1, .int p0), (2, .int a205), (3, .int x207)] [1, 2, 3, 0] rfl ?_
                          exact hk194 (a205, x207)
                        · intro k206 hk206
                          refine g_sub [(0, .ref (wA Ω 0)), (1, .int p0), (2, .int a203), (3, .int a193.2), (4, .int 0)] [1, 2, 3, 4, 0] rfl ?_
                          refine g_loop 245 (fun a208 => [(0, .ref (wA Ω 0)), (1, .int p0), (2, .int a208.1), (3, .int a193.2), (4, .int a208.2)]) (fun _ => []) (fun a208 => M1) ?_ FU (a203, 0)
                          intro k209 hk209 a208
                          unfold fX10_account_L11
                          refine g_iload 4 rfl 247 rfl dX10_account_245 ?_
                          refine g_aload_n 0 rfl rfl 248 rfl dX10_account_247 ?_
                          refine g_iload_n 3 rfl rfl 249 rfl dX10_account_248 ?_
                          refine g_iconst 2 250 rfl dX10_account_249 (by decide) ?_
                          refine p_cVI 0 [.int a193.2, .int 2] [.int a208.2] (c_X10_of l hO hX M1 a193.2 2) dX10_account_250 uv_X10_78 rfl yk_X10_of ⟨by decide, by decide⟩ (lm_0 hX).1 (lm_0 hX).2 rfl (Nat.le_of_ble_eq_true rfl) rfl 253 rfl ?_
                          intro x210
                          refine g_icmp_ge 294 (by decide) 256 rfl dX10_account_253 ?_ ?_
                          · refine g_sub [(0, .ref (wA Ω 0)), (1, .int p0), (2, .int a208.1), (3, .int a193.2)] [0, 1, 2, 3] rfl ?_
                            exact hk206 a208.1
                          · refine g_iload_n 1 rfl rfl 257 rfl dX10_account_256 ?_
                            refine g_iconst 5 258 rfl dX10_account_257 (by decide) ?_
                            refine g_join 272 (fun a211 => [(0, .ref (wA Ω 0)), (1, .int p0), (2, .int a211), (3, .int a193.2), (4, .int a208.2)]) (fun a211 => []) (fun a211 => M1) ?_ ?_
                            · intro a211
                              refine g_iload_n 1 rfl rfl 273 rfl dX10_account_272 ?_
                              refine g_bipush 10 275 rfl dX10_account_273 (by decide) ?_
                              refine g_join 288 (fun a213 => [(0, .ref (wA Ω 0)), (1, .int p0), (2, .int a213), (3, .int a193.2), (4, .int a208.2)]) (fun a213 => []) (fun a213 => M1) ?_ ?_
                              · intro a213
                                refine g_iinc 4 rfl 1 (by decide) (fun x215 => [(4, .int x215), (0, .ref (wA Ω 0)), (1, .int p0), (2, .int a213), (3, .int a193.2)]) 291 rfl dX10_account_288 (by decide) (fun _ => rfl) ?_
                                intro x215
                                refine g_goto 245 (by decide) dX10_account_291 ?_
                                refine g_sub [(0, .ref (wA Ω 0)), (1, .int p0), (2, .int a213), (3, .int a193.2), (4, .int x215)] [1, 2, 3, 4, 0] rfl ?_
                                exact hk209 (a213, x215)
                              · intro k214 hk214
                                refine g_icmp_ne 288 (by decide) 278 rfl dX10_account_275 ?_ ?_
                                · refine g_iload_n 2 rfl rfl 279 rfl dX10_account_278 ?_
                                  refine g_aload_n 0 rfl rfl 280 rfl dX10_account_279 ?_
                                  refine g_iload_n 3 rfl rfl 281 rfl dX10_account_280 ?_
                                  refine g_iload 4 rfl 283 rfl dX10_account_281 ?_
                                  refine p_cVI 0 [.int a193.2, .int a208.2] [.int a211] (c_X10_heads l hO hX M1 a193.2 a208.2) dX10_account_283 uv_X10_137 rfl yk_X10_heads ⟨by decide, by decide⟩ (lm_0 hX).1 (lm_0 hX).2 rfl (Nat.le_of_ble_eq_true rfl) rfl 286 rfl ?_
                                  intro x216
                                  refine g_iadd 287 rfl dX10_account_286 ?_
                                  refine g_istore_n (fun x217 => [(2, .int x217), (0, .ref (wA Ω 0)), (1, .int p0), (3, .int a193.2), (4, .int a208.2)]) rfl 288 rfl dX10_account_287 (by decide) (fun _ => rfl) ?_
                                  intro x217
                                  refine g_sub [(0, .ref (wA Ω 0)), (1, .int p0), (2, .int x217), (3, .int a193.2), (4, .int a208.2)] [1, 2, 0, 3, 4] rfl ?_
                                  exact hk214 x217
                                · exact hk214 a211
                            · intro k212 hk212
                              refine g_icmp_ne 272 (by decide) 261 rfl dX10_account_258 ?_ ?_
                              · refine g_iload_n 2 rfl rfl 262 rfl dX10_account_261 ?_
                                refine g_aload_n 0 rfl rfl 263 rfl dX10_account_262 ?_
                                refine g_iload_n 3 rfl rfl 264 rfl dX10_account_263 ?_
                                refine g_iload 4 rfl 266 rfl dX10_account_264 ?_
                                refine g_iconst 3 267 rfl dX10_account_266 (by decide) ?_
                                refine p_cVI 0 [.int a193.2, .int a208.2, .int 3] [.int a208.1] (c_X10_groupOf l hO hX M1 a193.2 a208.2 3) dX10_account_267 uv_X10_89 rfl yk_X10_groupOf ⟨by decide, by decide⟩ (lm_0 hX).1 (lm_0 hX).2 rfl (Nat.le_of_ble_eq_true rfl) rfl 270 rfl ?_
                                intro x218
                                refine g_iadd 271 rfl dX10_account_270 ?_
                                refine g_istore_n (fun x219 => [(2, .int x219), (0, .ref (wA Ω 0)), (1, .int p0), (3, .int a193.2), (4, .int a208.2)]) rfl 272 rfl dX10_account_271 (by decide) (fun _ => rfl) ?_
                                intro x219
                                refine g_sub [(0, .ref (wA Ω 0)), (1, .int p0), (2, .int x219), (3, .int a193.2), (4, .int a208.2)] [1, 2, 0, 3, 4] rfl ?_
                                exact hk212 x219
                              · exact hk212 a208.1
                      · intro k204 hk204
                        refine g_icmp_ne 242 (by decide) 230 rfl dX10_account_227 ?_ ?_
                        · refine g_aload_n 0 rfl rfl 231 rfl dX10_account_230 ?_
                          refine g_iload_n 3 rfl rfl 232 rfl dX10_account_231 ?_
                          refine g_iconst 4 233 rfl dX10_account_232 (by decide) ?_
                          refine p_cVI 0 [.int a193.2, .int 4] [] (c_X10_of l hO hX M1 a193.2 4) dX10_account_233 uv_X10_78 rfl yk_X10_of ⟨by decide, by decide⟩ (lm_0 hX).1 (lm_0 hX).2 rfl (Nat.le_of_ble_eq_true rfl) rfl 236 rfl ?_
                          intro x220
                          refine g_if_lt 242 (by decide) 239 rfl dX10_account_236 ?_ ?_
                          · exact hk204 a201
                          · refine g_iinc 2 rfl 1 (by decide) (fun x221 => [(2, .int x221), (0, .ref (wA Ω 0)), (1, .int p0), (3, .int a193.2)]) 242 rfl dX10_account_239 (by decide) (fun _ => rfl) ?_
                            intro x221
                            refine g_sub [(0, .ref (wA Ω 0)), (1, .int p0), (2, .int x221), (3, .int a193.2)] [1, 2, 0, 3] rfl ?_
                            exact hk204 x221
                        · exact hk204 a201
                    · intro k202 hk202
                      refine g_icmp_ne 224 (by decide) 216 rfl dX10_account_213 ?_ ?_
                      · refine g_iload_n 2 rfl rfl 217 rfl dX10_account_216 ?_
                        refine g_aload_n 0 rfl rfl 218 rfl dX10_account_217 ?_
                        refine g_iload_n 3 rfl rfl 219 rfl dX10_account_218 ?_
                        refine p_cVI 0 [.int a193.2] [.int a199] (c_X10_waiting l hO hX M1 a193.2) dX10_account_219 uv_X10_210 rfl yk_X10_waiting ⟨by decide, by decide⟩ (lm_0 hX).1 (lm_0 hX).2 rfl (Nat.le_of_ble_eq_true rfl) rfl 222 rfl ?_
                        intro x222
                        refine g_iadd 223 rfl dX10_account_222 ?_
                        refine g_istore_n (fun x223 => [(2, .int x223), (0, .ref (wA Ω 0)), (1, .int p0), (3, .int a193.2)]) rfl 224 rfl dX10_account_223 (by decide) (fun _ => rfl) ?_
                        intro x223
                        refine g_sub [(0, .ref (wA Ω 0)), (1, .int p0), (2, .int x223), (3, .int a193.2)] [1, 2, 0, 3] rfl ?_
                        exact hk202 x223
                      · exact hk202 a199
                  · intro k200 hk200
                    refine g_icmp_ne 210 (by decide) 194 rfl dX10_account_191 ?_ ?_
                    · refine g_iload_n 2 rfl rfl 195 rfl dX10_account_194 ?_
                      refine g_aload_n 0 rfl rfl 196 rfl dX10_account_195 ?_
                      refine g_iload_n 3 rfl rfl 197 rfl dX10_account_196 ?_
                      refine g_iconst 0 198 rfl dX10_account_197 (by decide) ?_
                      refine p_cVI 0 [.int a193.2, .int 0] [.int a197] (c_X10_greens l hO hX M1 a193.2 0) dX10_account_198 uv_X10_174 rfl yk_X10_greens ⟨by decide, by decide⟩ (lm_0 hX).1 (lm_0 hX).2 rfl (Nat.le_of_ble_eq_true rfl) rfl 201 rfl ?_
                      intro x224
                      refine g_aload_n 0 rfl rfl 202 rfl dX10_account_201 ?_
                      refine g_iload_n 3 rfl rfl 203 rfl dX10_account_202 ?_
                      refine g_iconst 1 204 rfl dX10_account_203 (by decide) ?_
                      refine p_cVI 0 [.int a193.2, .int 1] [.int x224, .int a197] (c_X10_greens l hO hX M1 a193.2 1) dX10_account_204 uv_X10_174 rfl yk_X10_greens ⟨by decide, by decide⟩ (lm_0 hX).1 (lm_0 hX).2 rfl (Nat.le_of_ble_eq_true rfl) rfl 207 rfl ?_
                      intro x225
                      refine g_iadd 208 rfl dX10_account_207 ?_
                      refine g_iadd 209 rfl dX10_account_208 ?_
                      refine g_istore_n (fun x226 => [(2, .int x226), (0, .ref (wA Ω 0)), (1, .int p0), (3, .int a193.2)]) rfl 210 rfl dX10_account_209 (by decide) (fun _ => rfl) ?_
                      intro x226
                      refine g_sub [(0, .ref (wA Ω 0)), (1, .int p0), (2, .int x226), (3, .int a193.2)] [1, 2, 0, 3] rfl ?_
                      exact hk200 x226
                    · exact hk200 a197
                · intro k198 hk198
                  refine g_icmp_ne 189 (by decide) 181 rfl dX10_account_178 ?_ ?_
                  · refine g_iload_n 2 rfl rfl 182 rfl dX10_account_181 ?_
                    refine g_aload_n 0 rfl rfl 183 rfl dX10_account_182 ?_
                    refine g_iload_n 3 rfl rfl 184 rfl dX10_account_183 ?_
                    refine p_cVI 0 [.int a193.2] [.int a195] (c_X10_conflicts l hO hX M1 a193.2) dX10_account_184 uv_X10_127 rfl yk_X10_conflicts ⟨by decide, by decide⟩ (lm_0 hX).1 (lm_0 hX).2 rfl (Nat.le_of_ble_eq_true rfl) rfl 187 rfl ?_
                    intro x227
                    refine g_iadd 188 rfl dX10_account_187 ?_
                    refine g_istore_n (fun x228 => [(2, .int x228), (0, .ref (wA Ω 0)), (1, .int p0), (3, .int a193.2)]) rfl 189 rfl dX10_account_188 (by decide) (fun _ => rfl) ?_
                    intro x228
                    refine g_sub [(0, .ref (wA Ω 0)), (1, .int p0), (2, .int x228), (3, .int a193.2)] [1, 2, 0, 3] rfl ?_
                    exact hk198 x228
                  · exact hk198 a195
              · intro k196 hk196
                refine g_icmp_ne 176 (by decide) 167 rfl dX10_account_164 ?_ ?_
                · refine g_iload_n 2 rfl rfl 168 rfl dX10_account_167 ?_
                  refine g_aload_n 0 rfl rfl 169 rfl dX10_account_168 ?_
                  refine g_iload_n 3 rfl rfl 170 rfl dX10_account_169 ?_
                  refine g_iconst 2 171 rfl dX10_account_170 (by decide) ?_
                  refine p_cVI 0 [.int a193.2, .int 2] [.int a193.1] (c_X10_of l hO hX M1 a193.2 2) dX10_account_171 uv_X10_78 rfl yk_X10_of ⟨by decide, by decide⟩ (lm_0 hX).1 (lm_0 hX).2 rfl (Nat.le_of_ble_eq_true rfl) rfl 174 rfl ?_
                  intro x229
                  refine g_iadd 175 rfl dX10_account_174 ?_
                  refine g_istore_n (fun x230 => [(2, .int x230), (0, .ref (wA Ω 0)), (1, .int p0), (3, .int a193.2)]) rfl 176 rfl dX10_account_175 (by decide) (fun _ => rfl) ?_
                  intro x230
                  refine g_sub [(0, .ref (wA Ω 0)), (1, .int p0), (2, .int x230), (3, .int a193.2)] [1, 2, 0, 3] rfl ?_
                  exact hk196 x230
                · exact hk196 a193.1
          · intro h22_3
            refine g_case ?_ ?_
            · intro h22_4
              refine g_tin (off := 81) 103 (by rw [h22_4]; decide) (by rw [h22_4]; decide) (by rw [h22_4]; rfl) (by decide) dX10_account_22 ?_
              refine g_aload_n 0 rfl rfl 104 rfl dX10_account_103 ?_
              refine w_getR (lm_0 hX) rfl in_X10 1 (by decide) wf_X10_9 1 rfl 107 rfl dX10_account_104 ?_
              refine g_iconst 3 108 rfl dX10_account_107 (by decide) ?_
              refine w_iald (lm_1 hX) 109 rfl dX10_account_108 ?_
              exact g_iret rfl dX10_account_109
            · intro h22_4
              refine g_case ?_ ?_
              · intro h22_5
                refine g_tin (off := 126) 148 (by rw [h22_5]; decide) (by rw [h22_5]; decide) (by rw [h22_5]; rfl) (by decide) dX10_account_22 ?_
                refine g_iconst 0 149 rfl dX10_account_148 (by decide) ?_
                refine g_istore_nA [(2, .int 0), (0, .ref (wA Ω 0)), (1, .int p0)] rfl 150 rfl dX10_account_149 (by decide) rfl ?_
                refine g_iconst 0 151 rfl dX10_account_150 (by decide) ?_
                refine g_istore_nA [(3, .int 0), (2, .int 0), (0, .ref (wA Ω 0)), (1, .int p0)] rfl 152 rfl dX10_account_151 (by decide) rfl ?_
                refine g_sub [(0, .ref (wA Ω 0)), (1, .int p0), (2, .int 0), (3, .int 0)] [2, 3, 1, 0] rfl ?_
                refine g_loop 152 (fun a155 => [(0, .ref (wA Ω 0)), (1, .int p0), (2, .int a155.1), (3, .int a155.2)]) (fun _ => []) (fun a155 => M1) ?_ FU (0, 0)
                intro k156 hk156 a155
                unfold fX10_account_L10
                refine g_iload_n 3 rfl rfl 153 rfl dX10_account_152 ?_
                refine g_aload_n 0 rfl rfl 154 rfl dX10_account_153 ?_
                refine w_getR (lm_0 hX) rfl in_X10 1 (by decide) wf_X10_9 1 rfl 157 rfl dX10_account_154 ?_
                refine g_iconst 2 158 rfl dX10_account_157 (by decide) ?_
                refine w_iald (lm_1 hX) 159 rfl dX10_account_158 ?_
                refine g_icmp_ge 300 (by decide) 162 rfl dX10_account_159 ?_ ?_
                · refine g_iload_n 2 rfl rfl 301 rfl dX10_account_300 ?_
                  exact g_iret rfl dX10_account_301
                · refine g_iload_n 1 rfl rfl 163 rfl dX10_account_162 ?_
                  refine g_iconst 1 164 rfl dX10_account_163 (by decide) ?_
                  refine g_join 176 (fun a157 => [(0, .ref (wA Ω 0)), (1, .int p0), (2, .int a157), (3, .int a155.2)]) (fun a157 => []) (fun a157 => M1) ?_ ?_
                  · intro a157
                    refine g_iload_n 1 rfl rfl 177 rfl dX10_account_176 ?_
                    refine g_iconst 2 178 rfl dX10_account_177 (by decide) ?_
                    refine g_join 189 (fun a159 => [(0, .ref (wA Ω 0)), (1, .int p0), (2, .int a159), (3, .int a155.2)]) (fun a159 => []) (fun a159 => M1) ?_ ?_
                    · intro a159
                      refine g_iload_n 1 rfl rfl 190 rfl dX10_account_189 ?_
                      refine g_iconst 3 191 rfl dX10_account_190 (by decide) ?_
                      refine g_join 210 (fun a161 => [(0, .ref (wA Ω 0)), (1, .int p0), (2, .int a161), (3, .int a155.2)]) (fun a161 => []) (fun a161 => M1) ?_ ?_
                      · intro a161
                        refine g_iload_n 1 rfl rfl 211 rfl dX10_account_210 ?_
                        refine g_bipush 7 213 rfl dX10_account_211 (by decide) ?_
                        refine g_join 224 (fun a163 => [(0, .ref (wA Ω 0)), (1, .int p0), (2, .int a163), (3, .int a155.2)]) (fun a163 => []) (fun a163 => M1) ?_ ?_
                        · intro a163
                          refine g_iload_n 1 rfl rfl 225 rfl dX10_account_224 ?_
                          refine g_bipush 9 227 rfl dX10_account_225 (by decide) ?_
                          refine g_join 242 (fun a165 => [(0, .ref (wA Ω 0)), (1, .int p0), (2, .int a165), (3, .int a155.2)]) (fun a165 => []) (fun a165 => M1) ?_ ?_
                          · intro a165
                            refine g_iconst 0 243 rfl dX10_account_242 (by decide) ?_
                            refine g_istoreA [(4, .int 0), (0, .ref (wA Ω 0)), (1, .int p0), (2, .int a165), (3, .int a155.2)] 245 rfl dX10_account_243 (by decide) rfl ?_
                            refine g_join 294 (fun a167 => [(0, .ref (wA Ω 0)), (1, .int p0), (2, .int a167), (3, .int a155.2)]) (fun a167 => []) (fun a167 => M1) ?_ ?_
                            · intro a167
                              refine g_iinc 3 rfl 1 (by decide) (fun x169 => [(3, .int x169), (0, .ref (wA Ω 0)), (1, .int p0), (2, .int a167)]) 297 rfl dX10_account_294 (by decide) (fun _ => rfl) ?_
                              intro x169
                              refine g_goto 152 (by decide) dX10_account_297 ?_
                              refine g_sub [(0, .ref (wA Ω 0)), (1, .int p0), (2, .int a167), (3, .int x169)] [1, 2, 3, 0] rfl ?_
                              exact hk156 (a167, x169)
                            · intro k168 hk168
                              refine g_sub [(0, .ref (wA Ω 0)), (1, .int p0), (2, .int a165), (3, .int a155.2), (4, .int 0)] [1, 2, 3, 4, 0] rfl ?_
                              refine g_loop 245 (fun a170 => [(0, .ref (wA Ω 0)), (1, .int p0), (2, .int a170.1), (3, .int a155.2), (4, .int a170.2)]) (fun _ => []) (fun a170 => M1) ?_ FU (a165, 0)
                              intro k171 hk171 a170
                              unfold fX10_account_L9
                              refine g_iload 4 rfl 247 rfl dX10_account_245 ?_
                              refine g_aload_n 0 rfl rfl 248 rfl dX10_account_247 ?_
                              refine g_iload_n 3 rfl rfl 249 rfl dX10_account_248 ?_
                              refine g_iconst 2 250 rfl dX10_account_249 (by decide) ?_
                              refine p_cVI 0 [.int a155.2, .int 2] [.int a170.2] (c_X10_of l hO hX M1 a155.2 2) dX10_account_250 uv_X10_78 rfl yk_X10_of ⟨by decide, by decide⟩ (lm_0 hX).1 (lm_0 hX).2 rfl (Nat.le_of_ble_eq_true rfl) rfl 253 rfl ?_
                              intro x172
                              refine g_icmp_ge 294 (by decide) 256 rfl dX10_account_253 ?_ ?_
                              · refine g_sub [(0, .ref (wA Ω 0)), (1, .int p0), (2, .int a170.1), (3, .int a155.2)] [0, 1, 2, 3] rfl ?_
                                exact hk168 a170.1
                              · refine g_iload_n 1 rfl rfl 257 rfl dX10_account_256 ?_
                                refine g_iconst 5 258 rfl dX10_account_257 (by decide) ?_
                                refine g_join 272 (fun a173 => [(0, .ref (wA Ω 0)), (1, .int p0), (2, .int a173), (3, .int a155.2), (4, .int a170.2)]) (fun a173 => []) (fun a173 => M1) ?_ ?_
                                · intro a173
                                  refine g_iload_n 1 rfl rfl 273 rfl dX10_account_272 ?_
                                  refine g_bipush 10 275 rfl dX10_account_273 (by decide) ?_
                                  refine g_join 288 (fun a175 => [(0, .ref (wA Ω 0)), (1, .int p0), (2, .int a175), (3, .int a155.2), (4, .int a170.2)]) (fun a175 => []) (fun a175 => M1) ?_ ?_
                                  · intro a175
                                    refine g_iinc 4 rfl 1 (by decide) (fun x177 => [(4, .int x177), (0, .ref (wA Ω 0)), (1, .int p0), (2, .int a175), (3, .int a155.2)]) 291 rfl dX10_account_288 (by decide) (fun _ => rfl) ?_
                                    intro x177
                                    refine g_goto 245 (by decide) dX10_account_291 ?_
                                    refine g_sub [(0, .ref (wA Ω 0)), (1, .int p0), (2, .int a175), (3, .int a155.2), (4, .int x177)] [1, 2, 3, 4, 0] rfl ?_
                                    exact hk171 (a175, x177)
                                  · intro k176 hk176
                                    refine g_icmp_ne 288 (by decide) 278 rfl dX10_account_275 ?_ ?_
                                    · refine g_iload_n 2 rfl rfl 279 rfl dX10_account_278 ?_
                                      refine g_aload_n 0 rfl rfl 280 rfl dX10_account_279 ?_
                                      refine g_iload_n 3 rfl rfl 281 rfl dX10_account_280 ?_
                                      refine g_iload 4 rfl 283 rfl dX10_account_281 ?_
                                      refine p_cVI 0 [.int a155.2, .int a170.2] [.int a173] (c_X10_heads l hO hX M1 a155.2 a170.2) dX10_account_283 uv_X10_137 rfl yk_X10_heads ⟨by decide, by decide⟩ (lm_0 hX).1 (lm_0 hX).2 rfl (Nat.le_of_ble_eq_true rfl) rfl 286 rfl ?_
                                      intro x178
                                      refine g_iadd 287 rfl dX10_account_286 ?_
                                      refine g_istore_n (fun x179 => [(2, .int x179), (0, .ref (wA Ω 0)), (1, .int p0), (3, .int a155.2), (4, .int a170.2)]) rfl 288 rfl dX10_account_287 (by decide) (fun _ => rfl) ?_
                                      intro x179
                                      refine g_sub [(0, .ref (wA Ω 0)), (1, .int p0), (2, .int x179), (3, .int a155.2), (4, .int a170.2)] [1, 2, 0, 3, 4] rfl ?_
                                      exact hk176 x179
                                    · exact hk176 a173
                                · intro k174 hk174
                                  refine g_icmp_ne 272 (by decide) 261 rfl dX10_account_258 ?_ ?_
                                  · refine g_iload_n 2 rfl rfl 262 rfl dX10_account_261 ?_
                                    refine g_aload_n 0 rfl rfl 263 rfl dX10_account_262 ?_
                                    refine g_iload_n 3 rfl rfl 264 rfl dX10_account_263 ?_
                                    refine g_iload 4 rfl 266 rfl dX10_account_264 ?_
                                    refine g_iconst 3 267 rfl dX10_account_266 (by decide) ?_
                                    refine p_cVI 0 [.int a155.2, .int a170.2, .int 3] [.int a170.1] (c_X10_groupOf l hO hX M1 a155.2 a170.2 3) dX10_account_267 uv_X10_89 rfl yk_X10_groupOf ⟨by decide, by decide⟩ (lm_0 hX).1 (lm_0 hX).2 rfl (Nat.le_of_ble_eq_true rfl) rfl 270 rfl ?_
                                    intro x180
                                    refine g_iadd 271 rfl dX10_account_270 ?_
                                    refine g_istore_n (fun x181 => [(2, .int x181), (0, .ref (wA Ω 0)), (1, .int p0), (3, .int a155.2), (4, .int a170.2)]) rfl 272 rfl dX10_account_271 (by decide) (fun _ => rfl) ?_
                                    intro x181
                                    refine g_sub [(0, .ref (wA Ω 0)), (1, .int p0), (2, .int x181), (3, .int a155.2), (4, .int a170.2)] [1, 2, 0, 3, 4] rfl ?_
                                    exact hk174 x181
                                  · exact hk174 a170.1
                          · intro k166 hk166
                            refine g_icmp_ne 242 (by decide) 230 rfl dX10_account_227 ?_ ?_
                            · refine g_aload_n 0 rfl rfl 231 rfl dX10_account_230 ?_
                              refine g_iload_n 3 rfl rfl 232 rfl dX10_account_231 ?_
                              refine g_iconst 4 233 rfl dX10_account_232 (by decide) ?_
                              refine p_cVI 0 [.int a155.2, .int 4] [] (c_X10_of l hO hX M1 a155.2 4) dX10_account_233 uv_X10_78 rfl yk_X10_of ⟨by decide, by decide⟩ (lm_0 hX).1 (lm_0 hX).2 rfl (Nat.le_of_ble_eq_true rfl) rfl 236 rfl ?_
                              intro x182
                              refine g_if_lt 242 (by decide) 239 rfl dX10_account_236 ?_ ?_
                              · exact hk166 a163
                              · refine g_iinc 2 rfl 1 (by decide) (fun x183 => [(2, .int x183), (0, .ref (wA Ω 0)), (1, .int p0), (3, .int a155.2)]) 242 rfl dX10_account_239 (by decide) (fun _ => rfl) ?_
                                intro x183
                                refine g_sub [(0, .ref (wA Ω 0)), (1, .int p0), (2, .int x183), (3, .int a155.2)] [1, 2, 0, 3] rfl ?_
                                exact hk166 x183
                            · exact hk166 a163
                        · intro k164 hk164
                          refine g_icmp_ne 224 (by decide) 216 rfl dX10_account_213 ?_ ?_
                          · refine g_iload_n 2 rfl rfl 217 rfl dX10_account_216 ?_
                            refine g_aload_n 0 rfl rfl 218 rfl dX10_account_217 ?_
                            refine g_iload_n 3 rfl rfl 219 rfl dX10_account_218 ?_
                            refine p_cVI 0 [.int a155.2] [.int a161] (c_X10_waiting l hO hX M1 a155.2) dX10_account_219 uv_X10_210 rfl yk_X10_waiting ⟨by decide, by decide⟩ (lm_0 hX).1 (lm_0 hX).2 rfl (Nat.le_of_ble_eq_true rfl) rfl 222 rfl ?_
                            intro x184
                            refine g_iadd 223 rfl dX10_account_222 ?_
                            refine g_istore_n (fun x185 => [(2, .int x185), (0, .ref (wA Ω 0)), (1, .int p0), (3, .int a155.2)]) rfl 224 rfl dX10_account_223 (by decide) (fun _ => rfl) ?_
                            intro x185
                            refine g_sub [(0, .ref (wA Ω 0)), (1, .int p0), (2, .int x185), (3, .int a155.2)] [1, 2, 0, 3] rfl ?_
                            exact hk164 x185
                          · exact hk164 a161
                      · intro k162 hk162
                        refine g_icmp_ne 210 (by decide) 194 rfl dX10_account_191 ?_ ?_
                        · refine g_iload_n 2 rfl rfl 195 rfl dX10_account_194 ?_
                          refine g_aload_n 0 rfl rfl 196 rfl dX10_account_195 ?_
                          refine g_iload_n 3 rfl rfl 197 rfl dX10_account_196 ?_
                          refine g_iconst 0 198 rfl dX10_account_197 (by decide) ?_
                          refine p_cVI 0 [.int a155.2, .int 0] [.int a159] (c_X10_greens l hO hX M1 a155.2 0) dX10_account_198 uv_X10_174 rfl yk_X10_greens ⟨by decide, by decide⟩ (lm_0 hX).1 (lm_0 hX).2 rfl (Nat.le_of_ble_eq_true rfl) rfl 201 rfl ?_
                          intro x186
                          refine g_aload_n 0 rfl rfl 202 rfl dX10_account_201 ?_
                          refine g_iload_n 3 rfl rfl 203 rfl dX10_account_202 ?_
                          refine g_iconst 1 204 rfl dX10_account_203 (by decide) ?_
                          refine p_cVI 0 [.int a155.2, .int 1] [.int x186, .int a159] (c_X10_greens l hO hX M1 a155.2 1) dX10_account_204 uv_X10_174 rfl yk_X10_greens ⟨by decide, by decide⟩ (lm_0 hX).1 (lm_0 hX).2 rfl (Nat.le_of_ble_eq_true rfl) rfl 207 rfl ?_
                          intro x187
                          refine g_iadd 208 rfl dX10_account_207 ?_
                          refine g_iadd 209 rfl dX10_account_208 ?_
                          refine g_istore_n (fun x188 => [(2, .int x188), (0, .ref (wA Ω 0)), (1, .int p0), (3, .int a155.2)]) rfl 210 rfl dX10_account_209 (by decide) (fun _ => rfl) ?_
                          intro x188
                          refine g_sub [(0, .ref (wA Ω 0)), (1, .int p0), (2, .int x188), (3, .int a155.2)] [1, 2, 0, 3] rfl ?_
                          exact hk162 x188
                        · exact hk162 a159
                    · intro k160 hk160
                      refine g_icmp_ne 189 (by decide) 181 rfl dX10_account_178 ?_ ?_
                      · refine g_iload_n 2 rfl rfl 182 rfl dX10_account_181 ?_
                        refine g_aload_n 0 rfl rfl 183 rfl dX10_account_182 ?_
                        refine g_iload_n 3 rfl rfl 184 rfl dX10_account_183 ?_
                        refine p_cVI 0 [.int a155.2] [.int a157] (c_X10_conflicts l hO hX M1 a155.2) dX10_account_184 uv_X10_127 rfl yk_X10_conflicts ⟨by decide, by decide⟩ (lm_0 hX).1 (lm_0 hX).2 rfl (Nat.le_of_ble_eq_true rfl) rfl 187 rfl ?_
                        intro x189
                        refine g_iadd 188 rfl dX10_account_187 ?_
                        refine g_istore_n (fun x190 => [(2, .int x190), (0, .ref (wA Ω 0)), (1, .int p0), (3, .int a155.2)]) rfl 189 rfl dX10_account_188 (by decide) (fun _ => rfl) ?_
                        intro x190
                        refine g_sub [(0, .ref (wA Ω 0)), (1, .int p0), (2, .int x190), (3, .int a155.2)] [1, 2, 0, 3] rfl ?_
                        exact hk160 x190
                      · exact hk160 a157
                  · intro k158 hk158
                    refine g_icmp_ne 176 (by decide) 167 rfl dX10_account_164 ?_ ?_
                    · refine g_iload_n 2 rfl rfl 168 rfl dX10_account_167 ?_
                      refine g_aload_n 0 rfl rfl 169 rfl dX10_account_168 ?_
                      refine g_iload_n 3 rfl rfl 170 rfl dX10_account_169 ?_
                      refine g_iconst 2 171 rfl dX10_account_170 (by decide) ?_
                      refine p_cVI 0 [.int a155.2, .int 2] [.int a155.1] (c_X10_of l hO hX M1 a155.2 2) dX10_account_171 uv_X10_78 rfl yk_X10_of ⟨by decide, by decide⟩ (lm_0 hX).1 (lm_0 hX).2 rfl (Nat.le_of_ble_eq_true rfl) rfl 174 rfl ?_
                      intro x191
                      refine g_iadd 175 rfl dX10_account_174 ?_
                      refine g_istore_n (fun x192 => [(2, .int x192), (0, .ref (wA Ω 0)), (1, .int p0), (3, .int a155.2)]) rfl 176 rfl dX10_account_175 (by decide) (fun _ => rfl) ?_
                      intro x192
                      refine g_sub [(0, .ref (wA Ω 0)), (1, .int p0), (2, .int x192), (3, .int a155.2)] [1, 2, 0, 3] rfl ?_
                      exact hk158 x192
                    · exact hk158 a155.1
              · intro h22_5
                refine g_case ?_ ?_
                · intro h22_6
                  refine g_tin (off := 88) 110 (by rw [h22_6]; decide) (by rw [h22_6]; decide) (by rw [h22_6]; rfl) (by decide) dX10_account_22 ?_
                  refine g_aload_n 0 rfl rfl 111 rfl dX10_account_110 ?_
                  refine w_getR (lm_0 hX) rfl in_X10 1 (by decide) wf_X10_9 1 rfl 114 rfl dX10_account_111 ?_
                  refine g_iconst 4 115 rfl dX10_account_114 (by decide) ?_
                  refine w_iald (lm_1 hX) 116 rfl dX10_account_115 ?_
                  exact g_iret rfl dX10_account_116
                · intro h22_6
                  refine g_case ?_ ?_
                  · intro h22_7
                    refine g_tin (off := 126) 148 (by rw [h22_7]; decide) (by rw [h22_7]; decide) (by rw [h22_7]; rfl) (by decide) dX10_account_22 ?_
                    refine g_iconst 0 149 rfl dX10_account_148 (by decide) ?_
                    refine g_istore_nA [(2, .int 0), (0, .ref (wA Ω 0)), (1, .int p0)] rfl 150 rfl dX10_account_149 (by decide) rfl ?_
                    refine g_iconst 0 151 rfl dX10_account_150 (by decide) ?_
                    refine g_istore_nA [(3, .int 0), (2, .int 0), (0, .ref (wA Ω 0)), (1, .int p0)] rfl 152 rfl dX10_account_151 (by decide) rfl ?_
                    refine g_sub [(0, .ref (wA Ω 0)), (1, .int p0), (2, .int 0), (3, .int 0)] [2, 3, 1, 0] rfl ?_
                    refine g_loop 152 (fun a117 => [(0, .ref (wA Ω 0)), (1, .int p0), (2, .int a117.1), (3, .int a117.2)]) (fun _ => []) (fun a117 => M1) ?_ FU (0, 0)
                    intro k118 hk118 a117
                    unfold fX10_account_L8
                    refine g_iload_n 3 rfl rfl 153 rfl dX10_account_152 ?_
                    refine g_aload_n 0 rfl rfl 154 rfl dX10_account_153 ?_
                    refine w_getR (lm_0 hX) rfl in_X10 1 (by decide) wf_X10_9 1 rfl 157 rfl dX10_account_154 ?_
                    refine g_iconst 2 158 rfl dX10_account_157 (by decide) ?_
                    refine w_iald (lm_1 hX) 159 rfl dX10_account_158 ?_
                    refine g_icmp_ge 300 (by decide) 162 rfl dX10_account_159 ?_ ?_
                    · refine g_iload_n 2 rfl rfl 301 rfl dX10_account_300 ?_
                      exact g_iret rfl dX10_account_301
                    · refine g_iload_n 1 rfl rfl 163 rfl dX10_account_162 ?_
                      refine g_iconst 1 164 rfl dX10_account_163 (by decide) ?_
                      refine g_join 176 (fun a119 => [(0, .ref (wA Ω 0)), (1, .int p0), (2, .int a119), (3, .int a117.2)]) (fun a119 => []) (fun a119 => M1) ?_ ?_
                      · intro a119
                        refine g_iload_n 1 rfl rfl 177 rfl dX10_account_176 ?_
                        refine g_iconst 2 178 rfl dX10_account_177 (by decide) ?_
                        refine g_join 189 (fun a121 => [(0, .ref (wA Ω 0)), (1, .int p0), (2, .int a121), (3, .int a117.2)]) (fun a121 => []) (fun a121 => M1) ?_ ?_
                        · intro a121
                          refine g_iload_n 1 rfl rfl 190 rfl dX10_account_189 ?_
                          refine g_iconst 3 191 rfl dX10_account_190 (by decide) ?_
                          refine g_join 210 (fun a123 => [(0, .ref (wA Ω 0)), (1, .int p0), (2, .int a123), (3, .int a117.2)]) (fun a123 => []) (fun a123 => M1) ?_ ?_
                          · intro a123
                            refine g_iload_n 1 rfl rfl 211 rfl dX10_account_210 ?_
                            refine g_bipush 7 213 rfl dX10_account_211 (by decide) ?_
                            refine g_join 224 (fun a125 => [(0, .ref (wA Ω 0)), (1, .int p0), (2, .int a125), (3, .int a117.2)]) (fun a125 => []) (fun a125 => M1) ?_ ?_
                            · intro a125
                              refine g_iload_n 1 rfl rfl 225 rfl dX10_account_224 ?_
                              refine g_bipush 9 227 rfl dX10_account_225 (by decide) ?_
                              refine g_join 242 (fun a127 => [(0, .ref (wA Ω 0)), (1, .int p0), (2, .int a127), (3, .int a117.2)]) (fun a127 => []) (fun a127 => M1) ?_ ?_
                              · intro a127
                                refine g_iconst 0 243 rfl dX10_account_242 (by decide) ?_
                                refine g_istoreA [(4, .int 0), (0, .ref (wA Ω 0)), (1, .int p0), (2, .int a127), (3, .int a117.2)] 245 rfl dX10_account_243 (by decide) rfl ?_
                                refine g_join 294 (fun a129 => [(0, .ref (wA Ω 0)), (1, .int p0), (2, .int a129), (3, .int a117.2)]) (fun a129 => []) (fun a129 => M1) ?_ ?_
                                · intro a129
                                  refine g_iinc 3 rfl 1 (by decide) (fun x131 => [(3, .int x131), (0, .ref (wA Ω 0)), (1, .int p0), (2, .int a129)]) 297 rfl dX10_account_294 (by decide) (fun _ => rfl) ?_
                                  intro x131
                                  refine g_goto 152 (by decide) dX10_account_297 ?_
                                  refine g_sub [(0, .ref (wA Ω 0)), (1, .int p0), (2, .int a129), (3, .int x131)] [1, 2, 3, 0] rfl ?_
                                  exact hk118 (a129, x131)
                                · intro k130 hk130
                                  refine g_sub [(0, .ref (wA Ω 0)), (1, .int p0), (2, .int a127), (3, .int a117.2), (4, .int 0)] [1, 2, 3, 4, 0] rfl ?_
                                  refine g_loop 245 (fun a132 => [(0, .ref (wA Ω 0)), (1, .int p0), (2, .int a132.1), (3, .int a117.2), (4, .int a132.2)]) (fun _ => []) (fun a132 => M1) ?_ FU (a127, 0)
                                  intro k133 hk133 a132
                                  unfold fX10_account_L7
                                  refine g_iload 4 rfl 247 rfl dX10_account_245 ?_
                                  refine g_aload_n 0 rfl rfl 248 rfl dX10_account_247 ?_
                                  refine g_iload_n 3 rfl rfl 249 rfl dX10_account_248 ?_
                                  refine g_iconst 2 250 rfl dX10_account_249 (by decide) ?_
                                  refine p_cVI 0 [.int a117.2, .int 2] [.int a132.2] (c_X10_of l hO hX M1 a117.2 2) dX10_account_250 uv_X10_78 rfl yk_X10_of ⟨by decide, by decide⟩ (lm_0 hX).1 (lm_0 hX).2 rfl (Nat.le_of_ble_eq_true rfl) rfl 253 rfl ?_
                                  intro x134
                                  refine g_icmp_ge 294 (by decide) 256 rfl dX10_account_253 ?_ ?_
                                  · refine g_sub [(0, .ref (wA Ω 0)), (1, .int p0), (2, .int a132.1), (3, .int a117.2)] [0, 1, 2, 3] rfl ?_
                                    exact hk130 a132.1
                                  · refine g_iload_n 1 rfl rfl 257 rfl dX10_account_256 ?_
                                    refine g_iconst 5 258 rfl dX10_account_257 (by decide) ?_
                                    refine g_join 272 (fun a135 => [(0, .ref (wA Ω 0)), (1, .int p0), (2, .int a135), (3, .int a117.2), (4, .int a132.2)]) (fun a135 => []) (fun a135 => M1) ?_ ?_
                                    · intro a135
                                      refine g_iload_n 1 rfl rfl 273 rfl dX10_account_272 ?_
                                      refine g_bipush 10 275 rfl dX10_account_273 (by decide) ?_
                                      refine g_join 288 (fun a137 => [(0, .ref (wA Ω 0)), (1, .int p0), (2, .int a137), (3, .int a117.2), (4, .int a132.2)]) (fun a137 => []) (fun a137 => M1) ?_ ?_
                                      · intro a137
                                        refine g_iinc 4 rfl 1 (by decide) (fun x139 => [(4, .int x139), (0, .ref (wA Ω 0)), (1, .int p0), (2, .int a137), (3, .int a117.2)]) 291 rfl dX10_account_288 (by decide) (fun _ => rfl) ?_
                                        intro x139
                                        refine g_goto 245 (by decide) dX10_account_291 ?_
                                        refine g_sub [(0, .ref (wA Ω 0)), (1, .int p0), (2, .int a137), (3, .int a117.2), (4, .int x139)] [1, 2, 3, 4, 0] rfl ?_
                                        exact hk133 (a137, x139)
                                      · intro k138 hk138
                                        refine g_icmp_ne 288 (by decide) 278 rfl dX10_account_275 ?_ ?_
                                        · refine g_iload_n 2 rfl rfl 279 rfl dX10_account_278 ?_
                                          refine g_aload_n 0 rfl rfl 280 rfl dX10_account_279 ?_
                                          refine g_iload_n 3 rfl rfl 281 rfl dX10_account_280 ?_
                                          refine g_iload 4 rfl 283 rfl dX10_account_281 ?_
                                          refine p_cVI 0 [.int a117.2, .int a132.2] [.int a135] (c_X10_heads l hO hX M1 a117.2 a132.2) dX10_account_283 uv_X10_137 rfl yk_X10_heads ⟨by decide, by decide⟩ (lm_0 hX).1 (lm_0 hX).2 rfl (Nat.le_of_ble_eq_true rfl) rfl 286 rfl ?_
                                          intro x140
                                          refine g_iadd 287 rfl dX10_account_286 ?_
                                          refine g_istore_n (fun x141 => [(2, .int x141), (0, .ref (wA Ω 0)), (1, .int p0), (3, .int a117.2), (4, .int a132.2)]) rfl 288 rfl dX10_account_287 (by decide) (fun _ => rfl) ?_
                                          intro x141
                                          refine g_sub [(0, .ref (wA Ω 0)), (1, .int p0), (2, .int x141), (3, .int a117.2), (4, .int a132.2)] [1, 2, 0, 3, 4] rfl ?_
                                          exact hk138 x141
                                        · exact hk138 a135
                                    · intro k136 hk136
                                      refine g_icmp_ne 272 (by decide) 261 rfl dX10_account_258 ?_ ?_
                                      · refine g_iload_n 2 rfl rfl 262 rfl dX10_account_261 ?_
                                        refine g_aload_n 0 rfl rfl 263 rfl dX10_account_262 ?_
                                        refine g_iload_n 3 rfl rfl 264 rfl dX10_account_263 ?_
                                        refine g_iload 4 rfl 266 rfl dX10_account_264 ?_
                                        refine g_iconst 3 267 rfl dX10_account_266 (by decide) ?_
                                        refine p_cVI 0 [.int a117.2, .int a132.2, .int 3] [.int a132.1] (c_X10_groupOf l hO hX M1 a117.2 a132.2 3) dX10_account_267 uv_X10_89 rfl yk_X10_groupOf ⟨by decide, by decide⟩ (lm_0 hX).1 (lm_0 hX).2 rfl (Nat.le_of_ble_eq_true rfl) rfl 270 rfl ?_
                                        intro x142
                                        refine g_iadd 271 rfl dX10_account_270 ?_
                                        refine g_istore_n (fun x143 => [(2, .int x143), (0, .ref (wA Ω 0)), (1, .int p0), (3, .int a117.2), (4, .int a132.2)]) rfl 272 rfl dX10_account_271 (by decide) (fun _ => rfl) ?_
                                        intro x143
                                        refine g_sub [(0, .ref (wA Ω 0)), (1, .int p0), (2, .int x143), (3, .int a117.2), (4, .int a132.2)] [1, 2, 0, 3, 4] rfl ?_
                                        exact hk136 x143
                                      · exact hk136 a132.1
                              · intro k128 hk128
                                refine g_icmp_ne 242 (by decide) 230 rfl dX10_account_227 ?_ ?_
                                · refine g_aload_n 0 rfl rfl 231 rfl dX10_account_230 ?_
                                  refine g_iload_n 3 rfl rfl 232 rfl dX10_account_231 ?_
                                  refine g_iconst 4 233 rfl dX10_account_232 (by decide) ?_
                                  refine p_cVI 0 [.int a117.2, .int 4] [] (c_X10_of l hO hX M1 a117.2 4) dX10_account_233 uv_X10_78 rfl yk_X10_of ⟨by decide, by decide⟩ (lm_0 hX).1 (lm_0 hX).2 rfl (Nat.le_of_ble_eq_true rfl) rfl 236 rfl ?_
                                  intro x144
                                  refine g_if_lt 242 (by decide) 239 rfl dX10_account_236 ?_ ?_
                                  · exact hk128 a125
                                  · refine g_iinc 2 rfl 1 (by decide) (fun x145 => [(2, .int x145), (0, .ref (wA Ω 0)), (1, .int p0), (3, .int a117.2)]) 242 rfl dX10_account_239 (by decide) (fun _ => rfl) ?_
                                    intro x145
                                    refine g_sub [(0, .ref (wA Ω 0)), (1, .int p0), (2, .int x145), (3, .int a117.2)] [1, 2, 0, 3] rfl ?_
                                    exact hk128 x145
                                · exact hk128 a125
                            · intro k126 hk126
                              refine g_icmp_ne 224 (by decide) 216 rfl dX10_account_213 ?_ ?_
                              · refine g_iload_n 2 rfl rfl 217 rfl dX10_account_216 ?_
                                refine g_aload_n 0 rfl rfl 218 rfl dX10_account_217 ?_
                                refine g_iload_n 3 rfl rfl 219 rfl dX10_account_218 ?_
                                refine p_cVI 0 [.int a117.2] [.int a123] (c_X10_waiting l hO hX M1 a117.2) dX10_account_219 uv_X10_210 rfl yk_X10_waiting ⟨by decide, by decide⟩ (lm_0 hX).1 (lm_0 hX).2 rfl (Nat.le_of_ble_eq_true rfl) rfl 222 rfl ?_
                                intro x146
                                refine g_iadd 223 rfl dX10_account_222 ?_
                                refine g_istore_n (fun x147 => [(2, .int x147), (0, .ref (wA Ω 0)), (1, .int p0), (3, .int a117.2)]) rfl 224 rfl dX10_account_223 (by decide) (fun _ => rfl) ?_
                                intro x147
                                refine g_sub [(0, .ref (wA Ω 0)), (1, .int p0), (2, .int x147), (3, .int a117.2)] [1, 2, 0, 3] rfl ?_
                                exact hk126 x147
                              · exact hk126 a123
                          · intro k124 hk124
                            refine g_icmp_ne 210 (by decide) 194 rfl dX10_account_191 ?_ ?_
                            · refine g_iload_n 2 rfl rfl 195 rfl dX10_account_194 ?_
                              refine g_aload_n 0 rfl rfl 196 rfl dX10_account_195 ?_
                              refine g_iload_n 3 rfl rfl 197 rfl dX10_account_196 ?_
                              refine g_iconst 0 198 rfl dX10_account_197 (by decide) ?_
                              refine p_cVI 0 [.int a117.2, .int 0] [.int a121] (c_X10_greens l hO hX M1 a117.2 0) dX10_account_198 uv_X10_174 rfl yk_X10_greens ⟨by decide, by decide⟩ (lm_0 hX).1 (lm_0 hX).2 rfl (Nat.le_of_ble_eq_true rfl) rfl 201 rfl ?_
                              intro x148
                              refine g_aload_n 0 rfl rfl 202 rfl dX10_account_201 ?_
                              refine g_iload_n 3 rfl rfl 203 rfl dX10_account_202 ?_
                              refine g_iconst 1 204 rfl dX10_account_203 (by decide) ?_
                              refine p_cVI 0 [.int a117.2, .int 1] [.int x148, .int a121] (c_X10_greens l hO hX M1 a117.2 1) dX10_account_204 uv_X10_174 rfl yk_X10_greens ⟨by decide, by decide⟩ (lm_0 hX).1 (lm_0 hX).2 rfl (Nat.le_of_ble_eq_true rfl) rfl 207 rfl ?_
                              intro x149
                              refine g_iadd 208 rfl dX10_account_207 ?_
                              refine g_iadd 209 rfl dX10_account_208 ?_
                              refine g_istore_n (fun x150 => [(2, .int x150), (0, .ref (wA Ω 0)), (1, .int p0), (3, .int a117.2)]) rfl 210 rfl dX10_account_209 (by decide) (fun _ => rfl) ?_
                              intro x150
                              refine g_sub [(0, .ref (wA Ω 0)), (1, .int p0), (2, .int x150), (3, .int a117.2)] [1, 2, 0, 3] rfl ?_
                              exact hk124 x150
                            · exact hk124 a121
                        · intro k122 hk122
                          refine g_icmp_ne 189 (by decide) 181 rfl dX10_account_178 ?_ ?_
                          · refine g_iload_n 2 rfl rfl 182 rfl dX10_account_181 ?_
                            refine g_aload_n 0 rfl rfl 183 rfl dX10_account_182 ?_
                            refine g_iload_n 3 rfl rfl 184 rfl dX10_account_183 ?_
                            refine p_cVI 0 [.int a117.2] [.int a119] (c_X10_conflicts l hO hX M1 a117.2) dX10_account_184 uv_X10_127 rfl yk_X10_conflicts ⟨by decide, by decide⟩ (lm_0 hX).1 (lm_0 hX).2 rfl (Nat.le_of_ble_eq_true rfl) rfl 187 rfl ?_
                            intro x151
                            refine g_iadd 188 rfl dX10_account_187 ?_
                            refine g_istore_n (fun x152 => [(2, .int x152), (0, .ref (wA Ω 0)), (1, .int p0), (3, .int a117.2)]) rfl 189 rfl dX10_account_188 (by decide) (fun _ => rfl) ?_
                            intro x152
                            refine g_sub [(0, .ref (wA Ω 0)), (1, .int p0), (2, .int x152), (3, .int a117.2)] [1, 2, 0, 3] rfl ?_
                            exact hk122 x152
                          · exact hk122 a119
                      · intro k120 hk120
                        refine g_icmp_ne 176 (by decide) 167 rfl dX10_account_164 ?_ ?_
                        · refine g_iload_n 2 rfl rfl 168 rfl dX10_account_167 ?_
                          refine g_aload_n 0 rfl rfl 169 rfl dX10_account_168 ?_
                          refine g_iload_n 3 rfl rfl 170 rfl dX10_account_169 ?_
                          refine g_iconst 2 171 rfl dX10_account_170 (by decide) ?_
                          refine p_cVI 0 [.int a117.2, .int 2] [.int a117.1] (c_X10_of l hO hX M1 a117.2 2) dX10_account_171 uv_X10_78 rfl yk_X10_of ⟨by decide, by decide⟩ (lm_0 hX).1 (lm_0 hX).2 rfl (Nat.le_of_ble_eq_true rfl) rfl 174 rfl ?_
                          intro x153
                          refine g_iadd 175 rfl dX10_account_174 ?_
                          refine g_istore_n (fun x154 => [(2, .int x154), (0, .ref (wA Ω 0)), (1, .int p0), (3, .int a117.2)]) rfl 176 rfl dX10_account_175 (by decide) (fun _ => rfl) ?_
                          intro x154
                          refine g_sub [(0, .ref (wA Ω 0)), (1, .int p0), (2, .int x154), (3, .int a117.2)] [1, 2, 0, 3] rfl ?_
                          exact hk120 x154
                        · exact hk120 a117.1
                  · intro h22_7
                    refine g_case ?_ ?_
                    · intro h22_8
                      refine g_tin (off := 95) 117 (by rw [h22_8]; decide) (by rw [h22_8]; decide) (by rw [h22_8]; rfl) (by decide) dX10_account_22 ?_
                      refine g_aload_n 0 rfl rfl 118 rfl dX10_account_117 ?_
                      refine w_getR (lm_0 hX) rfl in_X10 1 (by decide) wf_X10_9 1 rfl 121 rfl dX10_account_118 ?_
                      refine g_iconst 5 122 rfl dX10_account_121 (by decide) ?_
                      refine w_iald (lm_1 hX) 123 rfl dX10_account_122 ?_
                      exact g_iret rfl dX10_account_123
                    · intro h22_8
                      refine g_case ?_ ?_
                      · intro h22_9
                        refine g_tin (off := 126) 148 (by rw [h22_9]; decide) (by rw [h22_9]; decide) (by rw [h22_9]; rfl) (by decide) dX10_account_22 ?_
                        refine g_iconst 0 149 rfl dX10_account_148 (by decide) ?_
                        refine g_istore_nA [(2, .int 0), (0, .ref (wA Ω 0)), (1, .int p0)] rfl 150 rfl dX10_account_149 (by decide) rfl ?_
                        refine g_iconst 0 151 rfl dX10_account_150 (by decide) ?_
                        refine g_istore_nA [(3, .int 0), (2, .int 0), (0, .ref (wA Ω 0)), (1, .int p0)] rfl 152 rfl dX10_account_151 (by decide) rfl ?_
                        refine g_sub [(0, .ref (wA Ω 0)), (1, .int p0), (2, .int 0), (3, .int 0)] [2, 3, 1, 0] rfl ?_
                        refine g_loop 152 (fun a79 => [(0, .ref (wA Ω 0)), (1, .int p0), (2, .int a79.1), (3, .int a79.2)]) (fun _ => []) (fun a79 => M1) ?_ FU (0, 0)
                        intro k80 hk80 a79
                        unfold fX10_account_L6
                        refine g_iload_n 3 rfl rfl 153 rfl dX10_account_152 ?_
                        refine g_aload_n 0 rfl rfl 154 rfl dX10_account_153 ?_
                        refine w_getR (lm_0 hX) rfl in_X10 1 (by decide) wf_X10_9 1 rfl 157 rfl dX10_account_154 ?_
                        refine g_iconst 2 158 rfl dX10_account_157 (by decide) ?_
                        refine w_iald (lm_1 hX) 159 rfl dX10_account_158 ?_
                        refine g_icmp_ge 300 (by decide) 162 rfl dX10_account_159 ?_ ?_
                        · refine g_iload_n 2 rfl rfl 301 rfl dX10_account_300 ?_
                          exact g_iret rfl dX10_account_301
                        · refine g_iload_n 1 rfl rfl 163 rfl dX10_account_162 ?_
                          refine g_iconst 1 164 rfl dX10_account_163 (by decide) ?_
                          refine g_join 176 (fun a81 => [(0, .ref (wA Ω 0)), (1, .int p0), (2, .int a81), (3, .int a79.2)]) (fun a81 => []) (fun a81 => M1) ?_ ?_
                          · intro a81
                            refine g_iload_n 1 rfl rfl 177 rfl dX10_account_176 ?_
                            refine g_iconst 2 178 rfl dX10_account_177 (by decide) ?_
                            refine g_join 189 (fun a83 => [(0, .ref (wA Ω 0)), (1, .int p0), (2, .int a83), (3, .int a79.2)]) (fun a83 => []) (fun a83 => M1) ?_ ?_
                            · intro a83
                              refine g_iload_n 1 rfl rfl 190 rfl dX10_account_189 ?_
                              refine g_iconst 3 191 rfl dX10_account_190 (by decide) ?_
                              refine g_join 210 (fun a85 => [(0, .ref (wA Ω 0)), (1, .int p0), (2, .int a85), (3, .int a79.2)]) (fun a85 => []) (fun a85 => M1) ?_ ?_
                              · intro a85
                                refine g_iload_n 1 rfl rfl 211 rfl dX10_account_210 ?_
                                refine g_bipush 7 213 rfl dX10_account_211 (by decide) ?_
                                refine g_join 224 (fun a87 => [(0, .ref (wA Ω 0)), (1, .int p0), (2, .int a87), (3, .int a79.2)]) (fun a87 => []) (fun a87 => M1) ?_ ?_
                                · intro a87
                                  refine g_iload_n 1 rfl rfl 225 rfl dX10_account_224 ?_
                                  refine g_bipush 9 227 rfl dX10_account_225 (by decide) ?_
                                  refine g_join 242 (fun a89 => [(0, .ref (wA Ω 0)), (1, .int p0), (2, .int a89), (3, .int a79.2)]) (fun a89 => []) (fun a89 => M1) ?_ ?_
                                  · intro a89
                                    refine g_iconst 0 243 rfl dX10_account_242 (by decide) ?_
                                    refine g_istoreA [(4, .int 0), (0, .ref (wA Ω 0)), (1, .int p0), (2, .int a89), (3, .int a79.2)] 245 rfl dX10_account_243 (by decide) rfl ?_
                                    refine g_join 294 (fun a91 => [(0, .ref (wA Ω 0)), (1, .int p0), (2, .int a91), (3, .int a79.2)]) (fun a91 => []) (fun a91 => M1) ?_ ?_
                                    · intro a91
                                      refine g_iinc 3 rfl 1 (by decide) (fun x93 => [(3, .int x93), (0, .ref (wA Ω 0)), (1, .int p0), (2, .int a91)]) 297 rfl dX10_account_294 (by decide) (fun _ => rfl) ?_
                                      intro x93
                                      refine g_goto 152 (by decide) dX10_account_297 ?_
                                      refine g_sub [(0, .ref (wA Ω 0)), (1, .int p0), (2, .int a91), (3, .int x93)] [1, 2, 3, 0] rfl ?_
                                      exact hk80 (a91, x93)
                                    · intro k92 hk92
                                      refine g_sub [(0, .ref (wA Ω 0)), (1, .int p0), (2, .int a89), (3, .int a79.2), (4, .int 0)] [1, 2, 3, 4, 0] rfl ?_
                                      refine g_loop 245 (fun a94 => [(0, .ref (wA Ω 0)), (1, .int p0), (2, .int a94.1), (3, .int a79.2), (4, .int a94.2)]) (fun _ => []) (fun a94 => M1) ?_ FU (a89, 0)
                                      intro k95 hk95 a94
                                      unfold fX10_account_L5
                                      refine g_iload 4 rfl 247 rfl dX10_account_245 ?_
                                      refine g_aload_n 0 rfl rfl 248 rfl dX10_account_247 ?_
                                      refine g_iload_n 3 rfl rfl 249 rfl dX10_account_248 ?_
                                      refine g_iconst 2 250 rfl dX10_account_249 (by decide) ?_
                                      refine p_cVI 0 [.int a79.2, .int 2] [.int a94.2] (c_X10_of l hO hX M1 a79.2 2) dX10_account_250 uv_X10_78 rfl yk_X10_of ⟨by decide, by decide⟩ (lm_0 hX).1 (lm_0 hX).2 rfl (Nat.le_of_ble_eq_true rfl) rfl 253 rfl ?_
                                      intro x96
                                      refine g_icmp_ge 294 (by decide) 256 rfl dX10_account_253 ?_ ?_
                                      · refine g_sub [(0, .ref (wA Ω 0)), (1, .int p0), (2, .int a94.1), (3, .int a79.2)] [0, 1, 2, 3] rfl ?_
                                        exact hk92 a94.1
                                      · refine g_iload_n 1 rfl rfl 257 rfl dX10_account_256 ?_
                                        refine g_iconst 5 258 rfl dX10_account_257 (by decide) ?_
                                        refine g_join 272 (fun a97 => [(0, .ref (wA Ω 0)), (1, .int p0), (2, .int a97), (3, .int a79.2), (4, .int a94.2)]) (fun a97 => []) (fun a97 => M1) ?_ ?_
                                        · intro a97
                                          refine g_iload_n 1 rfl rfl 273 rfl dX10_account_272 ?_
                                          refine g_bipush 10 275 rfl dX10_account_273 (by decide) ?_
                                          refine g_join 288 (fun a99 => [(0, .ref (wA Ω 0)), (1, .int p0), (2, .int a99), (3, .int a79.2), (4, .int a94.2)]) (fun a99 => []) (fun a99 => M1) ?_ ?_
                                          · intro a99
                                            refine g_iinc 4 rfl 1 (by decide) (fun x101 => [(4, .int x101), (0, .ref (wA Ω 0)), (1, .int p0), (2, .int a99), (3, .int a79.2)]) 291 rfl dX10_account_288 (by decide) (fun _ => rfl) ?_
                                            intro x101
                                            refine g_goto 245 (by decide) dX10_account_291 ?_
                                            refine g_sub [(0, .ref (wA Ω 0)), (1, .int p0), (2, .int a99), (3, .int a79.2), (4, .int x101)] [1, 2, 3, 4, 0] rfl ?_
                                            exact hk95 (a99, x101)
                                          · intro k100 hk100
                                            refine g_icmp_ne 288 (by decide) 278 rfl dX10_account_275 ?_ ?_
                                            · refine g_iload_n 2 rfl rfl 279 rfl dX10_account_278 ?_
                                              refine g_aload_n 0 rfl rfl 280 rfl dX10_account_279 ?_
                                              refine g_iload_n 3 rfl rfl 281 rfl dX10_account_280 ?_
                                              refine g_iload 4 rfl 283 rfl dX10_account_281 ?_
                                              refine p_cVI 0 [.int a79.2, .int a94.2] [.int a97] (c_X10_heads l hO hX M1 a79.2 a94.2) dX10_account_283 uv_X10_137 rfl yk_X10_heads ⟨by decide, by decide⟩ (lm_0 hX).1 (lm_0 hX).2 rfl (Nat.le_of_ble_eq_true rfl) rfl 286 rfl ?_
                                              intro x102
                                              refine g_iadd 287 rfl dX10_account_286 ?_
                                              refine g_istore_n (fun x103 => [(2, .int x103), (0, .ref (wA Ω 0)), (1, .int p0), (3, .int a79.2), (4, .int a94.2)]) rfl 288 rfl dX10_account_287 (by decide) (fun _ => rfl) ?_
                                              intro x103
                                              refine g_sub [(0, .ref (wA Ω 0)), (1, .int p0), (2, .int x103), (3, .int a79.2), (4, .int a94.2)] [1, 2, 0, 3, 4] rfl ?_
                                              exact hk100 x103
                                            · exact hk100 a97
                                        · intro k98 hk98
                                          refine g_icmp_ne 272 (by decide) 261 rfl dX10_account_258 ?_ ?_
                                          · refine g_iload_n 2 rfl rfl 262 rfl dX10_account_261 ?_
                                            refine g_aload_n 0 rfl rfl 263 rfl dX10_account_262 ?_
                                            refine g_iload_n 3 rfl rfl 264 rfl dX10_account_263 ?_
                                            refine g_iload 4 rfl 266 rfl dX10_account_264 ?_
                                            refine g_iconst 3 267 rfl dX10_account_266 (by decide) ?_
                                            refine p_cVI 0 [.int a79.2, .int a94.2, .int 3] [.int a94.1] (c_X10_groupOf l hO hX M1 a79.2 a94.2 3) dX10_account_267 uv_X10_89 rfl yk_X10_groupOf ⟨by decide, by decide⟩ (lm_0 hX).1 (lm_0 hX).2 rfl (Nat.le_of_ble_eq_true rfl) rfl 270 rfl ?_
                                            intro x104
                                            refine g_iadd 271 rfl dX10_account_270 ?_
                                            refine g_istore_n (fun x105 => [(2, .int x105), (0, .ref (wA Ω 0)), (1, .int p0), (3, .int a79.2), (4, .int a94.2)]) rfl 272 rfl dX10_account_271 (by decide) (fun _ => rfl) ?_
                                            intro x105
                                            refine g_sub [(0, .ref (wA Ω 0)), (1, .int p0), (2, .int x105), (3, .int a79.2), (4, .int a94.2)] [1, 2, 0, 3, 4] rfl ?_
                                            exact hk98 x105
                                          · exact hk98 a94.1
                                  · intro k90 hk90
                                    refine g_icmp_ne 242 (by decide) 230 rfl dX10_account_227 ?_ ?_
                                    · refine g_aload_n 0 rfl rfl 231 rfl dX10_account_230 ?_
                                      refine g_iload_n 3 rfl rfl 232 rfl dX10_account_231 ?_
                                      refine g_iconst 4 233 rfl dX10_account_232 (by decide) ?_
                                      refine p_cVI 0 [.int a79.2, .int 4] [] (c_X10_of l hO hX M1 a79.2 4) dX10_account_233 uv_X10_78 rfl yk_X10_of ⟨by decide, by decide⟩ (lm_0 hX).1 (lm_0 hX).2 rfl (Nat.le_of_ble_eq_true rfl) rfl 236 rfl ?_
                                      intro x106
                                      refine g_if_lt 242 (by decide) 239 rfl dX10_account_236 ?_ ?_
                                      · exact hk90 a87
                                      · refine g_iinc 2 rfl 1 (by decide) (fun x107 => [(2, .int x107), (0, .ref (wA Ω 0)), (1, .int p0), (3, .int a79.2)]) 242 rfl dX10_account_239 (by decide) (fun _ => rfl) ?_
                                        intro x107
                                        refine g_sub [(0, .ref (wA Ω 0)), (1, .int p0), (2, .int x107), (3, .int a79.2)] [1, 2, 0, 3] rfl ?_
                                        exact hk90 x107
                                    · exact hk90 a87
                                · intro k88 hk88
                                  refine g_icmp_ne 224 (by decide) 216 rfl dX10_account_213 ?_ ?_
                                  · refine g_iload_n 2 rfl rfl 217 rfl dX10_account_216 ?_
                                    refine g_aload_n 0 rfl rfl 218 rfl dX10_account_217 ?_
                                    refine g_iload_n 3 rfl rfl 219 rfl dX10_account_218 ?_
                                    refine p_cVI 0 [.int a79.2] [.int a85] (c_X10_waiting l hO hX M1 a79.2) dX10_account_219 uv_X10_210 rfl yk_X10_waiting ⟨by decide, by decide⟩ (lm_0 hX).1 (lm_0 hX).2 rfl (Nat.le_of_ble_eq_true rfl) rfl 222 rfl ?_
                                    intro x108
                                    refine g_iadd 223 rfl dX10_account_222 ?_
                                    refine g_istore_n (fun x109 => [(2, .int x109), (0, .ref (wA Ω 0)), (1, .int p0), (3, .int a79.2)]) rfl 224 rfl dX10_account_223 (by decide) (fun _ => rfl) ?_
                                    intro x109
                                    refine g_sub [(0, .ref (wA Ω 0)), (1, .int p0), (2, .int x109), (3, .int a79.2)] [1, 2, 0, 3] rfl ?_
                                    exact hk88 x109
                                  · exact hk88 a85
                              · intro k86 hk86
                                refine g_icmp_ne 210 (by decide) 194 rfl dX10_account_191 ?_ ?_
                                · refine g_iload_n 2 rfl rfl 195 rfl dX10_account_194 ?_
                                  refine g_aload_n 0 rfl rfl 196 rfl dX10_account_195 ?_
                                  refine g_iload_n 3 rfl rfl 197 rfl dX10_account_196 ?_
                                  refine g_iconst 0 198 rfl dX10_account_197 (by decide) ?_
                                  refine p_cVI 0 [.int a79.2, .int 0] [.int a83] (c_X10_greens l hO hX M1 a79.2 0) dX10_account_198 uv_X10_174 rfl yk_X10_greens ⟨by decide, by decide⟩ (lm_0 hX).1 (lm_0 hX).2 rfl (Nat.le_of_ble_eq_true rfl) rfl 201 rfl ?_
                                  intro x110
                                  refine g_aload_n 0 rfl rfl 202 rfl dX10_account_201 ?_
                                  refine g_iload_n 3 rfl rfl 203 rfl dX10_account_202 ?_
                                  refine g_iconst 1 204 rfl dX10_account_203 (by decide) ?_
                                  refine p_cVI 0 [.int a79.2, .int 1] [.int x110, .int a83] (c_X10_greens l hO hX M1 a79.2 1) dX10_account_204 uv_X10_174 rfl yk_X10_greens ⟨by decide, by decide⟩ (lm_0 hX).1 (lm_0 hX).2 rfl (Nat.le_of_ble_eq_true rfl) rfl 207 rfl ?_
                                  intro x111
                                  refine g_iadd 208 rfl dX10_account_207 ?_
                                  refine g_iadd 209 rfl dX10_account_208 ?_
                                  refine g_istore_n (fun x112 => [(2, .int x112), (0, .ref (wA Ω 0)), (1, .int p0), (3, .int a79.2)]) rfl 210 rfl dX10_account_209 (by decide) (fun _ => rfl) ?_
                                  intro x112
                                  refine g_sub [(0, .ref (wA Ω 0)), (1, .int p0), (2, .int x112), (3, .int a79.2)] [1, 2, 0, 3] rfl ?_
                                  exact hk86 x112
                                · exact hk86 a83
                            · intro k84 hk84
                              refine g_icmp_ne 189 (by decide) 181 rfl dX10_account_178 ?_ ?_
                              · refine g_iload_n 2 rfl rfl 182 rfl dX10_account_181 ?_
                                refine g_aload_n 0 rfl rfl 183 rfl dX10_account_182 ?_
                                refine g_iload_n 3 rfl rfl 184 rfl dX10_account_183 ?_
                                refine p_cVI 0 [.int a79.2] [.int a81] (c_X10_conflicts l hO hX M1 a79.2) dX10_account_184 uv_X10_127 rfl yk_X10_conflicts ⟨by decide, by decide⟩ (lm_0 hX).1 (lm_0 hX).2 rfl (Nat.le_of_ble_eq_true rfl) rfl 187 rfl ?_
                                intro x113
                                refine g_iadd 188 rfl dX10_account_187 ?_
                                refine g_istore_n (fun x114 => [(2, .int x114), (0, .ref (wA Ω 0)), (1, .int p0), (3, .int a79.2)]) rfl 189 rfl dX10_account_188 (by decide) (fun _ => rfl) ?_
                                intro x114
                                refine g_sub [(0, .ref (wA Ω 0)), (1, .int p0), (2, .int x114), (3, .int a79.2)] [1, 2, 0, 3] rfl ?_
                                exact hk84 x114
                              · exact hk84 a81
                          · intro k82 hk82
                            refine g_icmp_ne 176 (by decide) 167 rfl dX10_account_164 ?_ ?_
                            · refine g_iload_n 2 rfl rfl 168 rfl dX10_account_167 ?_
                              refine g_aload_n 0 rfl rfl 169 rfl dX10_account_168 ?_
                              refine g_iload_n 3 rfl rfl 170 rfl dX10_account_169 ?_
                              refine g_iconst 2 171 rfl dX10_account_170 (by decide) ?_
                              refine p_cVI 0 [.int a79.2, .int 2] [.int a79.1] (c_X10_of l hO hX M1 a79.2 2) dX10_account_171 uv_X10_78 rfl yk_X10_of ⟨by decide, by decide⟩ (lm_0 hX).1 (lm_0 hX).2 rfl (Nat.le_of_ble_eq_true rfl) rfl 174 rfl ?_
                              intro x115
                              refine g_iadd 175 rfl dX10_account_174 ?_
                              refine g_istore_n (fun x116 => [(2, .int x116), (0, .ref (wA Ω 0)), (1, .int p0), (3, .int a79.2)]) rfl 176 rfl dX10_account_175 (by decide) (fun _ => rfl) ?_
                              intro x116
                              refine g_sub [(0, .ref (wA Ω 0)), (1, .int p0), (2, .int x116), (3, .int a79.2)] [1, 2, 0, 3] rfl ?_
                              exact hk82 x116
                            · exact hk82 a79.1
                      · intro h22_9
                        refine g_case ?_ ?_
                        · intro h22_10
                          refine g_tin (off := 126) 148 (by rw [h22_10]; decide) (by rw [h22_10]; decide) (by rw [h22_10]; rfl) (by decide) dX10_account_22 ?_
                          refine g_iconst 0 149 rfl dX10_account_148 (by decide) ?_
                          refine g_istore_nA [(2, .int 0), (0, .ref (wA Ω 0)), (1, .int p0)] rfl 150 rfl dX10_account_149 (by decide) rfl ?_
                          refine g_iconst 0 151 rfl dX10_account_150 (by decide) ?_
                          refine g_istore_nA [(3, .int 0), (2, .int 0), (0, .ref (wA Ω 0)), (1, .int p0)] rfl 152 rfl dX10_account_151 (by decide) rfl ?_
                          refine g_sub [(0, .ref (wA Ω 0)), (1, .int p0), (2, .int 0), (3, .int 0)] [2, 3, 1, 0] rfl ?_
                          refine g_loop 152 (fun a41 => [(0, .ref (wA Ω 0)), (1, .int p0), (2, .int a41.1), (3, .int a41.2)]) (fun _ => []) (fun a41 => M1) ?_ FU (0, 0)
                          intro k42 hk42 a41
                          unfold fX10_account_L4
                          refine g_iload_n 3 rfl rfl 153 rfl dX10_account_152 ?_
                          refine g_aload_n 0 rfl rfl 154 rfl dX10_account_153 ?_
                          refine w_getR (lm_0 hX) rfl in_X10 1 (by decide) wf_X10_9 1 rfl 157 rfl dX10_account_154 ?_
                          refine g_iconst 2 158 rfl dX10_account_157 (by decide) ?_
                          refine w_iald (lm_1 hX) 159 rfl dX10_account_158 ?_
                          refine g_icmp_ge 300 (by decide) 162 rfl dX10_account_159 ?_ ?_
                          · refine g_iload_n 2 rfl rfl 301 rfl dX10_account_300 ?_
                            exact g_iret rfl dX10_account_301
                          · refine g_iload_n 1 rfl rfl 163 rfl dX10_account_162 ?_
                            refine g_iconst 1 164 rfl dX10_account_163 (by decide) ?_
                            refine g_join 176 (fun a43 => [(0, .ref (wA Ω 0)), (1, .int p0), (2, .int a43), (3, .int a41.2)]) (fun a43 => []) (fun a43 => M1) ?_ ?_
                            · intro a43
                              refine g_iload_n 1 rfl rfl 177 rfl dX10_account_176 ?_
                              refine g_iconst 2 178 rfl dX10_account_177 (by decide) ?_
                              refine g_join 189 (fun a45 => [(0, .ref (wA Ω 0)), (1, .int p0), (2, .int a45), (3, .int a41.2)]) (fun a45 => []) (fun a45 => M1) ?_ ?_
                              · intro a45
                                refine g_iload_n 1 rfl rfl 190 rfl dX10_account_189 ?_
                                refine g_iconst 3 191 rfl dX10_account_190 (by decide) ?_
                                refine g_join 210 (fun a47 => [(0, .ref (wA Ω 0)), (1, .int p0), (2, .int a47), (3, .int a41.2)]) (fun a47 => []) (fun a47 => M1) ?_ ?_
                                · intro a47
                                  refine g_iload_n 1 rfl rfl 211 rfl dX10_account_210 ?_
                                  refine g_bipush 7 213 rfl dX10_account_211 (by decide) ?_
                                  refine g_join 224 (fun a49 => [(0, .ref (wA Ω 0)), (1, .int p0), (2, .int a49), (3, .int a41.2)]) (fun a49 => []) (fun a49 => M1) ?_ ?_
                                  · intro a49
                                    refine g_iload_n 1 rfl rfl 225 rfl dX10_account_224 ?_
                                    refine g_bipush 9 227 rfl dX10_account_225 (by decide) ?_
                                    refine g_join 242 (fun a51 => [(0, .ref (wA Ω 0)), (1, .int p0), (2, .int a51), (3, .int a41.2)]) (fun a51 => []) (fun a51 => M1) ?_ ?_
                                    · intro a51
                                      refine g_iconst 0 243 rfl dX10_account_242 (by decide) ?_
                                      refine g_istoreA [(4, .int 0), (0, .ref (wA Ω 0)), (1, .int p0), (2, .int a51), (3, .int a41.2)] 245 rfl dX10_account_243 (by decide) rfl ?_
                                      refine g_join 294 (fun a53 => [(0, .ref (wA Ω 0)), (1, .int p0), (2, .int a53), (3, .int a41.2)]) (fun a53 => []) (fun a53 => M1) ?_ ?_
                                      · intro a53
                                        refine g_iinc 3 rfl 1 (by decide) (fun x55 => [(3, .int x55), (0, .ref (wA Ω 0)), (1, .int p0), (2, .int a53)]) 297 rfl dX10_account_294 (by decide) (fun _ => rfl) ?_
                                        intro x55
                                        refine g_goto 152 (by decide) dX10_account_297 ?_
                                        refine g_sub [(0, .ref (wA Ω 0)), (1, .int p0), (2, .int a53), (3, .int x55)] [1, 2, 3, 0] rfl ?_
                                        exact hk42 (a53, x55)
                                      · intro k54 hk54
                                        refine g_sub [(0, .ref (wA Ω 0)), (1, .int p0), (2, .int a51), (3, .int a41.2), (4, .int 0)] [1, 2, 3, 4, 0] rfl ?_
                                        refine g_loop 245 (fun a56 => [(0, .ref (wA Ω 0)), (1, .int p0), (2, .int a56.1), (3, .int a41.2), (4, .int a56.2)]) (fun _ => []) (fun a56 => M1) ?_ FU (a51, 0)
                                        intro k57 hk57 a56
                                        unfold fX10_account_L3
                                        refine g_iload 4 rfl 247 rfl dX10_account_245 ?_
                                        refine g_aload_n 0 rfl rfl 248 rfl dX10_account_247 ?_
                                        refine g_iload_n 3 rfl rfl 249 rfl dX10_account_248 ?_
                                        refine g_iconst 2 250 rfl dX10_account_249 (by decide) ?_
                                        refine p_cVI 0 [.int a41.2, .int 2] [.int a56.2] (c_X10_of l hO hX M1 a41.2 2) dX10_account_250 uv_X10_78 rfl yk_X10_of ⟨by decide, by decide⟩ (lm_0 hX).1 (lm_0 hX).2 rfl (Nat.le_of_ble_eq_true rfl) rfl 253 rfl ?_
                                        intro x58
                                        refine g_icmp_ge 294 (by decide) 256 rfl dX10_account_253 ?_ ?_
                                        · refine g_sub [(0, .ref (wA Ω 0)), (1, .int p0), (2, .int a56.1), (3, .int a41.2)] [0, 1, 2, 3] rfl ?_
                                          exact hk54 a56.1
                                        · refine g_iload_n 1 rfl rfl 257 rfl dX10_account_256 ?_
                                          refine g_iconst 5 258 rfl dX10_account_257 (by decide) ?_
                                          refine g_join 272 (fun a59 => [(0, .ref (wA Ω 0)), (1, .int p0), (2, .int a59), (3, .int a41.2), (4, .int a56.2)]) (fun a59 => []) (fun a59 => M1) ?_ ?_
                                          · intro a59
                                            refine g_iload_n 1 rfl rfl 273 rfl dX10_account_272 ?_
                                            refine g_bipush 10 275 rfl dX10_account_273 (by decide) ?_
                                            refine g_join 288 (fun a61 => [(0, .ref (wA Ω 0)), (1, .int p0), (2, .int a61), (3, .int a41.2), (4, .int a56.2)]) (fun a61 => []) (fun a61 => M1) ?_ ?_
                                            · intro a61
                                              refine g_iinc 4 rfl 1 (by decide) (fun x63 => [(4, .int x63), (0, .ref (wA Ω 0)), (1, .int p0), (2, .int a61), (3, .int a41.2)]) 291 rfl dX10_account_288 (by decide) (fun _ => rfl) ?_
                                              intro x63
                                              refine g_goto 245 (by decide) dX10_account_291 ?_
                                              refine g_sub [(0, .ref (wA Ω 0)), (1, .int p0), (2, .int a61), (3, .int a41.2), (4, .int x63)] [1, 2, 3, 4, 0] rfl ?_
                                              exact hk57 (a61, x63)
                                            · intro k62 hk62
                                              refine g_icmp_ne 288 (by decide) 278 rfl dX10_account_275 ?_ ?_
                                              · refine g_iload_n 2 rfl rfl 279 rfl dX10_account_278 ?_
                                                refine g_aload_n 0 rfl rfl 280 rfl dX10_account_279 ?_
                                                refine g_iload_n 3 rfl rfl 281 rfl dX10_account_280 ?_
                                                refine g_iload 4 rfl 283 rfl dX10_account_281 ?_
                                                refine p_cVI 0 [.int a41.2, .int a56.2] [.int a59] (c_X10_heads l hO hX M1 a41.2 a56.2) dX10_account_283 uv_X10_137 rfl yk_X10_heads ⟨by decide, by decide⟩ (lm_0 hX).1 (lm_0 hX).2 rfl (Nat.le_of_ble_eq_true rfl) rfl 286 rfl ?_
                                                intro x64
                                                refine g_iadd 287 rfl dX10_account_286 ?_
                                                refine g_istore_n (fun x65 => [(2, .int x65), (0, .ref (wA Ω 0)), (1, .int p0), (3, .int a41.2), (4, .int a56.2)]) rfl 288 rfl dX10_account_287 (by decide) (fun _ => rfl) ?_
                                                intro x65
                                                refine g_sub [(0, .ref (wA Ω 0)), (1, .int p0), (2, .int x65), (3, .int a41.2), (4, .int a56.2)] [1, 2, 0, 3, 4] rfl ?_
                                                exact hk62 x65
                                              · exact hk62 a59
                                          · intro k60 hk60
                                            refine g_icmp_ne 272 (by decide) 261 rfl dX10_account_258 ?_ ?_
                                            · refine g_iload_n 2 rfl rfl 262 rfl dX10_account_261 ?_
                                              refine g_aload_n 0 rfl rfl 263 rfl dX10_account_262 ?_
                                              refine g_iload_n 3 rfl rfl 264 rfl dX10_account_263 ?_
                                              refine g_iload 4 rfl 266 rfl dX10_account_264 ?_
                                              refine g_iconst 3 267 rfl dX10_account_266 (by decide) ?_
                                              refine p_cVI 0 [.int a41.2, .int a56.2, .int 3] [.int a56.1] (c_X10_groupOf l hO hX M1 a41.2 a56.2 3) dX10_account_267 uv_X10_89 rfl yk_X10_groupOf ⟨by decide, by decide⟩ (lm_0 hX).1 (lm_0 hX).2 rfl (Nat.le_of_ble_eq_true rfl) rfl 270 rfl ?_
                                              intro x66
                                              refine g_iadd 271 rfl dX10_account_270 ?_
                                              refine g_istore_n (fun x67 => [(2, .int x67), (0, .ref (wA Ω 0)), (1, .int p0), (3, .int a41.2), (4, .int a56.2)]) rfl 272 rfl dX10_account_271 (by decide) (fun _ => rfl) ?_
                                              intro x67
                                              refine g_sub [(0, .ref (wA Ω 0)), (1, .int p0), (2, .int x67), (3, .int a41.2), (4, .int a56.2)] [1, 2, 0, 3, 4] rfl ?_
                                              exact hk60 x67
                                            · exact hk60 a56.1
                                    · intro k52 hk52
                                      refine g_icmp_ne 242 (by decide) 230 rfl dX10_account_227 ?_ ?_
                                      · refine g_aload_n 0 rfl rfl 231 rfl dX10_account_230 ?_
                                        refine g_iload_n 3 rfl rfl 232 rfl dX10_account_231 ?_
                                        refine g_iconst 4 233 rfl dX10_account_232 (by decide) ?_
                                        refine p_cVI 0 [.int a41.2, .int 4] [] (c_X10_of l hO hX M1 a41.2 4) dX10_account_233 uv_X10_78 rfl yk_X10_of ⟨by decide, by decide⟩ (lm_0 hX).1 (lm_0 hX).2 rfl (Nat.le_of_ble_eq_true rfl) rfl 236 rfl ?_
                                        intro x68
                                        refine g_if_lt 242 (by decide) 239 rfl dX10_account_236 ?_ ?_
                                        · exact hk52 a49
                                        · refine g_iinc 2 rfl 1 (by decide) (fun x69 => [(2, .int x69), (0, .ref (wA Ω 0)), (1, .int p0), (3, .int a41.2)]) 242 rfl dX10_account_239 (by decide) (fun _ => rfl) ?_
                                          intro x69
                                          refine g_sub [(0, .ref (wA Ω 0)), (1, .int p0), (2, .int x69), (3, .int a41.2)] [1, 2, 0, 3] rfl ?_
                                          exact hk52 x69
                                      · exact hk52 a49
                                  · intro k50 hk50
                                    refine g_icmp_ne 224 (by decide) 216 rfl dX10_account_213 ?_ ?_
                                    · refine g_iload_n 2 rfl rfl 217 rfl dX10_account_216 ?_
                                      refine g_aload_n 0 rfl rfl 218 rfl dX10_account_217 ?_
                                      refine g_iload_n 3 rfl rfl 219 rfl dX10_account_218 ?_
                                      refine p_cVI 0 [.int a41.2] [.int a47] (c_X10_waiting l hO hX M1 a41.2) dX10_account_219 uv_X10_210 rfl yk_X10_waiting ⟨by decide, by decide⟩ (lm_0 hX).1 (lm_0 hX).2 rfl (Nat.le_of_ble_eq_true rfl) rfl 222 rfl ?_
                                      intro x70
                                      refine g_iadd 223 rfl dX10_account_222 ?_
                                      refine g_istore_n (fun x71 => [(2, .int x71), (0, .ref (wA Ω 0)), (1, .int p0), (3, .int a41.2)]) rfl 224 rfl dX10_account_223 (by decide) (fun _ => rfl) ?_
                                      intro x71
                                      refine g_sub [(0, .ref (wA Ω 0)), (1, .int p0), (2, .int x71), (3, .int a41.2)] [1, 2, 0, 3] rfl ?_
                                      exact hk50 x71
                                    · exact hk50 a47
                                · intro k48 hk48
                                  refine g_icmp_ne 210 (by decide) 194 rfl dX10_account_191 ?_ ?_
                                  · refine g_iload_n 2 rfl rfl 195 rfl dX10_account_194 ?_
                                    refine g_aload_n 0 rfl rfl 196 rfl dX10_account_195 ?_
                                    refine g_iload_n 3 rfl rfl 197 rfl dX10_account_196 ?_
                                    refine g_iconst 0 198 rfl dX10_account_197 (by decide) ?_
                                    refine p_cVI 0 [.int a41.2, .int 0] [.int a45] (c_X10_greens l hO hX M1 a41.2 0) dX10_account_198 uv_X10_174 rfl yk_X10_greens ⟨by decide, by decide⟩ (lm_0 hX).1 (lm_0 hX).2 rfl (Nat.le_of_ble_eq_true rfl) rfl 201 rfl ?_
                                    intro x72
                                    refine g_aload_n 0 rfl rfl 202 rfl dX10_account_201 ?_
                                    refine g_iload_n 3 rfl rfl 203 rfl dX10_account_202 ?_
                                    refine g_iconst 1 204 rfl dX10_account_203 (by decide) ?_
                                    refine p_cVI 0 [.int a41.2, .int 1] [.int x72, .int a45] (c_X10_greens l hO hX M1 a41.2 1) dX10_account_204 uv_X10_174 rfl yk_X10_greens ⟨by decide, by decide⟩ (lm_0 hX).1 (lm_0 hX).2 rfl (Nat.le_of_ble_eq_true rfl) rfl 207 rfl ?_
                                    intro x73
                                    refine g_iadd 208 rfl dX10_account_207 ?_
                                    refine g_iadd 209 rfl dX10_account_208 ?_
                                    refine g_istore_n (fun x74 => [(2, .int x74), (0, .ref (wA Ω 0)), (1, .int p0), (3, .int a41.2)]) rfl 210 rfl dX10_account_209 (by decide) (fun _ => rfl) ?_
                                    intro x74
                                    refine g_sub [(0, .ref (wA Ω 0)), (1, .int p0), (2, .int x74), (3, .int a41.2)] [1, 2, 0, 3] rfl ?_
                                    exact hk48 x74
                                  · exact hk48 a45
                              · intro k46 hk46
                                refine g_icmp_ne 189 (by decide) 181 rfl dX10_account_178 ?_ ?_
                                · refine g_iload_n 2 rfl rfl 182 rfl dX10_account_181 ?_
                                  refine g_aload_n 0 rfl rfl 183 rfl dX10_account_182 ?_
                                  refine g_iload_n 3 rfl rfl 184 rfl dX10_account_183 ?_
                                  refine p_cVI 0 [.int a41.2] [.int a43] (c_X10_conflicts l hO hX M1 a41.2) dX10_account_184 uv_X10_127 rfl yk_X10_conflicts ⟨by decide, by decide⟩ (lm_0 hX).1 (lm_0 hX).2 rfl (Nat.le_of_ble_eq_true rfl) rfl 187 rfl ?_
                                  intro x75
                                  refine g_iadd 188 rfl dX10_account_187 ?_
                                  refine g_istore_n (fun x76 => [(2, .int x76), (0, .ref (wA Ω 0)), (1, .int p0), (3, .int a41.2)]) rfl 189 rfl dX10_account_188 (by decide) (fun _ => rfl) ?_
                                  intro x76
                                  refine g_sub [(0, .ref (wA Ω 0)), (1, .int p0), (2, .int x76), (3, .int a41.2)] [1, 2, 0, 3] rfl ?_
                                  exact hk46 x76
                                · exact hk46 a43
                            · intro k44 hk44
                              refine g_icmp_ne 176 (by decide) 167 rfl dX10_account_164 ?_ ?_
                              · refine g_iload_n 2 rfl rfl 168 rfl dX10_account_167 ?_
                                refine g_aload_n 0 rfl rfl 169 rfl dX10_account_168 ?_
                                refine g_iload_n 3 rfl rfl 170 rfl dX10_account_169 ?_
                                refine g_iconst 2 171 rfl dX10_account_170 (by decide) ?_
                                refine p_cVI 0 [.int a41.2, .int 2] [.int a41.1] (c_X10_of l hO hX M1 a41.2 2) dX10_account_171 uv_X10_78 rfl yk_X10_of ⟨by decide, by decide⟩ (lm_0 hX).1 (lm_0 hX).2 rfl (Nat.le_of_ble_eq_true rfl) rfl 174 rfl ?_
                                intro x77
                                refine g_iadd 175 rfl dX10_account_174 ?_
                                refine g_istore_n (fun x78 => [(2, .int x78), (0, .ref (wA Ω 0)), (1, .int p0), (3, .int a41.2)]) rfl 176 rfl dX10_account_175 (by decide) (fun _ => rfl) ?_
                                intro x78
                                refine g_sub [(0, .ref (wA Ω 0)), (1, .int p0), (2, .int x78), (3, .int a41.2)] [1, 2, 0, 3] rfl ?_
                                exact hk44 x78
                              · exact hk44 a41.1
                        · intro h22_10
                          refine g_case ?_ ?_
                          · intro h22_11
                            refine g_tin (off := 102) 124 (by rw [h22_11]; decide) (by rw [h22_11]; decide) (by rw [h22_11]; rfl) (by decide) dX10_account_22 ?_
                            refine g_aload_n 0 rfl rfl 125 rfl dX10_account_124 ?_
                            refine w_getR (lm_0 hX) rfl in_X10 1 (by decide) wf_X10_9 1 rfl 128 rfl dX10_account_125 ?_
                            refine g_iconst 0 129 rfl dX10_account_128 (by decide) ?_
                            refine w_iald (lm_1 hX) 130 rfl dX10_account_129 ?_
                            exact g_iret rfl dX10_account_130
                          · intro h22_11
                            refine g_case ?_ ?_
                            · intro h22_12
                              refine g_tin (off := 109) 131 (by rw [h22_12]; decide) (by rw [h22_12]; decide) (by rw [h22_12]; rfl) (by decide) dX10_account_22 ?_
                              refine g_aload_n 0 rfl rfl 132 rfl dX10_account_131 ?_
                              refine w_getR (lm_0 hX) rfl in_X10 1 (by decide) wf_X10_9 1 rfl 135 rfl dX10_account_132 ?_
                              refine g_iconst 1 136 rfl dX10_account_135 (by decide) ?_
                              refine w_iald (lm_1 hX) 137 rfl dX10_account_136 ?_
                              exact g_iret rfl dX10_account_137
                            · intro h22_12
                              refine g_case ?_ ?_
                              · intro h22_13
                                refine g_tin (off := 116) 138 (by rw [h22_13]; decide) (by rw [h22_13]; decide) (by rw [h22_13]; rfl) (by decide) dX10_account_22 ?_
                                refine g_aload_n 0 rfl rfl 139 rfl dX10_account_138 ?_
                                refine w_get (lm_0 hX) rfl in_X10 3 (by decide) wf_X10_57 rfl 142 rfl dX10_account_139 ?_
                                exact g_iret rfl dX10_account_142
                              · intro h22_13
                                refine g_case ?_ ?_
                                · intro h22_14
                                  refine g_tin (off := 121) 143 (by rw [h22_14]; decide) (by rw [h22_14]; decide) (by rw [h22_14]; rfl) (by decide) dX10_account_22 ?_
                                  refine g_aload_n 0 rfl rfl 144 rfl dX10_account_143 ?_
                                  refine w_get (lm_0 hX) rfl in_X10 8 (by decide) wf_X10_232 rfl 147 rfl dX10_account_144 ?_
                                  exact g_iret rfl dX10_account_147
                                · intro h22_14
                                  refine g_tout 148 (ts_out (fun z h1 h2 e => by have q0 := ts_ne (z := 0) h22_0 (by decide); have q1 := ts_ne (z := 1) h22_1 (by decide); have q2 := ts_ne (z := 2) h22_2 (by decide); have q3 := ts_ne (z := 3) h22_3 (by decide); have q4 := ts_ne (z := 4) h22_4 (by decide); have q5 := ts_ne (z := 5) h22_5 (by decide); have q6 := ts_ne (z := 6) h22_6 (by decide); have q7 := ts_ne (z := 7) h22_7 (by decide); have q8 := ts_ne (z := 8) h22_8 (by decide); have q9 := ts_ne (z := 9) h22_9 (by decide); have q10 := ts_ne (z := 10) h22_10 (by decide); have q11 := ts_ne (z := 11) h22_11 (by decide); have q12 := ts_ne (z := 12) h22_12 (by decide); have q13 := ts_ne (z := 13) h22_13 (by decide); have q14 := ts_ne (z := 14) h22_14 (by decide); omega)) (by decide) dX10_account_22 ?_
                                  refine g_iconst 0 149 rfl dX10_account_148 (by decide) ?_
                                  refine g_istore_nA [(2, .int 0), (0, .ref (wA Ω 0)), (1, .int p0)] rfl 150 rfl dX10_account_149 (by decide) rfl ?_
                                  refine g_iconst 0 151 rfl dX10_account_150 (by decide) ?_
                                  refine g_istore_nA [(3, .int 0), (2, .int 0), (0, .ref (wA Ω 0)), (1, .int p0)] rfl 152 rfl dX10_account_151 (by decide) rfl ?_
                                  refine g_sub [(0, .ref (wA Ω 0)), (1, .int p0), (2, .int 0), (3, .int 0)] [2, 3, 1, 0] rfl ?_
                                  refine g_loop 152 (fun a3 => [(0, .ref (wA Ω 0)), (1, .int p0), (2, .int a3.1), (3, .int a3.2)]) (fun _ => []) (fun a3 => M1) ?_ FU (0, 0)
                                  intro k4 hk4 a3
                                  unfold fX10_account_L2
                                  refine g_iload_n 3 rfl rfl 153 rfl dX10_account_152 ?_
                                  refine g_aload_n 0 rfl rfl 154 rfl dX10_account_153 ?_
                                  refine w_getR (lm_0 hX) rfl in_X10 1 (by decide) wf_X10_9 1 rfl 157 rfl dX10_account_154 ?_
                                  refine g_iconst 2 158 rfl dX10_account_157 (by decide) ?_
                                  refine w_iald (lm_1 hX) 159 rfl dX10_account_158 ?_
                                  refine g_icmp_ge 300 (by decide) 162 rfl dX10_account_159 ?_ ?_
                                  · refine g_iload_n 2 rfl rfl 301 rfl dX10_account_300 ?_
                                    exact g_iret rfl dX10_account_301
                                  · refine g_iload_n 1 rfl rfl 163 rfl dX10_account_162 ?_
                                    refine g_iconst 1 164 rfl dX10_account_163 (by decide) ?_
                                    refine g_join 176 (fun a5 => [(0, .ref (wA Ω 0)), (1, .int p0), (2, .int a5), (3, .int a3.2)]) (fun a5 => []) (fun a5 => M1) ?_ ?_
                                    · intro a5
                                      refine g_iload_n 1 rfl rfl 177 rfl dX10_account_176 ?_
                                      refine g_iconst 2 178 rfl dX10_account_177 (by decide) ?_
                                      refine g_join 189 (fun a7 => [(0, .ref (wA Ω 0)), (1, .int p0), (2, .int a7), (3, .int a3.2)]) (fun a7 => []) (fun a7 => M1) ?_ ?_
                                      · intro a7
                                        refine g_iload_n 1 rfl rfl 190 rfl dX10_account_189 ?_
                                        refine g_iconst 3 191 rfl dX10_account_190 (by decide) ?_
                                        refine g_join 210 (fun a9 => [(0, .ref (wA Ω 0)), (1, .int p0), (2, .int a9), (3, .int a3.2)]) (fun a9 => []) (fun a9 => M1) ?_ ?_
                                        · intro a9
                                          refine g_iload_n 1 rfl rfl 211 rfl dX10_account_210 ?_
                                          refine g_bipush 7 213 rfl dX10_account_211 (by decide) ?_
                                          refine g_join 224 (fun a11 => [(0, .ref (wA Ω 0)), (1, .int p0), (2, .int a11), (3, .int a3.2)]) (fun a11 => []) (fun a11 => M1) ?_ ?_
                                          · intro a11
                                            refine g_iload_n 1 rfl rfl 225 rfl dX10_account_224 ?_
                                            refine g_bipush 9 227 rfl dX10_account_225 (by decide) ?_
                                            refine g_join 242 (fun a13 => [(0, .ref (wA Ω 0)), (1, .int p0), (2, .int a13), (3, .int a3.2)]) (fun a13 => []) (fun a13 => M1) ?_ ?_
                                            · intro a13
                                              refine g_iconst 0 243 rfl dX10_account_242 (by decide) ?_
                                              refine g_istoreA [(4, .int 0), (0, .ref (wA Ω 0)), (1, .int p0), (2, .int a13), (3, .int a3.2)] 245 rfl dX10_account_243 (by decide) rfl ?_
                                              refine g_join 294 (fun a15 => [(0, .ref (wA Ω 0)), (1, .int p0), (2, .int a15), (3, .int a3.2)]) (fun a15 => []) (fun a15 => M1) ?_ ?_
                                              · intro a15
                                                refine g_iinc 3 rfl 1 (by decide) (fun x17 => [(3, .int x17), (0, .ref (wA Ω 0)), (1, .int p0), (2, .int a15)]) 297 rfl dX10_account_294 (by decide) (fun _ => rfl) ?_
                                                intro x17
                                                refine g_goto 152 (by decide) dX10_account_297 ?_
                                                refine g_sub [(0, .ref (wA Ω 0)), (1, .int p0), (2, .int a15), (3, .int x17)] [1, 2, 3, 0] rfl ?_
                                                exact hk4 (a15, x17)
                                              · intro k16 hk16
                                                refine g_sub [(0, .ref (wA Ω 0)), (1, .int p0), (2, .int a13), (3, .int a3.2), (4, .int 0)] [1, 2, 3, 4, 0] rfl ?_
                                                refine g_loop 245 (fun a18 => [(0, .ref (wA Ω 0)), (1, .int p0), (2, .int a18.1), (3, .int a3.2), (4, .int a18.2)]) (fun _ => []) (fun a18 => M1) ?_ FU (a13, 0)
                                                intro k19 hk19 a18
                                                unfold fX10_account_L1
                                                refine g_iload 4 rfl 247 rfl dX10_account_245 ?_
                                                refine g_aload_n 0 rfl rfl 248 rfl dX10_account_247 ?_
                                                refine g_iload_n 3 rfl rfl 249 rfl dX10_account_248 ?_
                                                refine g_iconst 2 250 rfl dX10_account_249 (by decide) ?_
                                                refine p_cVI 0 [.int a3.2, .int 2] [.int a18.2] (c_X10_of l hO hX M1 a3.2 2) dX10_account_250 uv_X10_78 rfl yk_X10_of ⟨by decide, by decide⟩ (lm_0 hX).1 (lm_0 hX).2 rfl (Nat.le_of_ble_eq_true rfl) rfl 253 rfl ?_
                                                intro x20
                                                refine g_icmp_ge 294 (by decide) 256 rfl dX10_account_253 ?_ ?_
                                                · refine g_sub [(0, .ref (wA Ω 0)), (1, .int p0), (2, .int a18.1), (3, .int a3.2)] [0, 1, 2, 3] rfl ?_
                                                  exact hk16 a18.1
                                                · refine g_iload_n 1 rfl rfl 257 rfl dX10_account_256 ?_
                                                  refine g_iconst 5 258 rfl dX10_account_257 (by decide) ?_
                                                  refine g_join 272 (fun a21 => [(0, .ref (wA Ω 0)), (1, .int p0), (2, .int a21), (3, .int a3.2), (4, .int a18.2)]) (fun a21 => []) (fun a21 => M1) ?_ ?_
                                                  · intro a21
                                                    refine g_iload_n 1 rfl rfl 273 rfl dX10_account_272 ?_
                                                    refine g_bipush 10 275 rfl dX10_account_273 (by decide) ?_
                                                    refine g_join 288 (fun a23 => [(0, .ref (wA Ω 0)), (1, .int p0), (2, .int a23), (3, .int a3.2), (4, .int a18.2)]) (fun a23 => []) (fun a23 => M1) ?_ ?_
                                                    · intro a23
                                                      refine g_iinc 4 rfl 1 (by decide) (fun x25 => [(4, .int x25), (0, .ref (wA Ω 0)), (1, .int p0), (2, .int a23), (3, .int a3.2)]) 291 rfl dX10_account_288 (by decide) (fun _ => rfl) ?_
                                                      intro x25
                                                      refine g_goto 245 (by decide) dX10_account_291 ?_
                                                      refine g_sub [(0, .ref (wA Ω 0)), (1, .int p0), (2, .int a23), (3, .int a3.2), (4, .int x25)] [1, 2, 3, 4, 0] rfl ?_
                                                      exact hk19 (a23, x25)
                                                    · intro k24 hk24
                                                      refine g_icmp_ne 288 (by decide) 278 rfl dX10_account_275 ?_ ?_
                                                      · refine g_iload_n 2 rfl rfl 279 rfl dX10_account_278 ?_
                                                        refine g_aload_n 0 rfl rfl 280 rfl dX10_account_279 ?_
                                                        refine g_iload_n 3 rfl rfl 281 rfl dX10_account_280 ?_
                                                        refine g_iload 4 rfl 283 rfl dX10_account_281 ?_
                                                        refine p_cVI 0 [.int a3.2, .int a18.2] [.int a21] (c_X10_heads l hO hX M1 a3.2 a18.2) dX10_account_283 uv_X10_137 rfl yk_X10_heads ⟨by decide, by decide⟩ (lm_0 hX).1 (lm_0 hX).2 rfl (Nat.le_of_ble_eq_true rfl) rfl 286 rfl ?_
                                                        intro x26
                                                        refine g_iadd 287 rfl dX10_account_286 ?_
                                                        refine g_istore_n (fun x27 => [(2, .int x27), (0, .ref (wA Ω 0)), (1, .int p0), (3, .int a3.2), (4, .int a18.2)]) rfl 288 rfl dX10_account_287 (by decide) (fun _ => rfl) ?_
                                                        intro x27
                                                        refine g_sub [(0, .ref (wA Ω 0)), (1, .int p0), (2, .int x27), (3, .int a3.2), (4, .int a18.2)] [1, 2, 0, 3, 4] rfl ?_
                                                        exact hk24 x27
                                                      · exact hk24 a21
                                                  · intro k22 hk22
                                                    refine g_icmp_ne 272 (by decide) 261 rfl dX10_account_258 ?_ ?_
                                                    · refine g_iload_n 2 rfl rfl 262 rfl dX10_account_261 ?_
                                                      refine g_aload_n 0 rfl rfl 263 rfl dX10_account_262 ?_
                                                      refine g_iload_n 3 rfl rfl 264 rfl dX10_account_263 ?_
                                                      refine g_iload 4 rfl 266 rfl dX10_account_264 ?_
                                                      refine g_iconst 3 267 rfl dX10_account_266 (by decide) ?_
                                                      refine p_cVI 0 [.int a3.2, .int a18.2, .int 3] [.int a18.1] (c_X10_groupOf l hO hX M1 a3.2 a18.2 3) dX10_account_267 uv_X10_89 rfl yk_X10_groupOf ⟨by decide, by decide⟩ (lm_0 hX).1 (lm_0 hX).2 rfl (Nat.le_of_ble_eq_true rfl) rfl 270 rfl ?_
                                                      intro x28
                                                      refine g_iadd 271 rfl dX10_account_270 ?_
                                                      refine g_istore_n (fun x29 => [(2, .int x29), (0, .ref (wA Ω 0)), (1, .int p0), (3, .int a3.2), (4, .int a18.2)]) rfl 272 rfl dX10_account_271 (by decide) (fun _ => rfl) ?_
                                                      intro x29
                                                      refine g_sub [(0, .ref (wA Ω 0)), (1, .int p0), (2, .int x29), (3, .int a3.2), (4, .int a18.2)] [1, 2, 0, 3, 4] rfl ?_
                                                      exact hk22 x29
                                                    · exact hk22 a18.1
                                            · intro k14 hk14
                                              refine g_icmp_ne 242 (by decide) 230 rfl dX10_account_227 ?_ ?_
                                              · refine g_aload_n 0 rfl rfl 231 rfl dX10_account_230 ?_
                                                refine g_iload_n 3 rfl rfl 232 rfl dX10_account_231 ?_
                                                refine g_iconst 4 233 rfl dX10_account_232 (by decide) ?_
                                                refine p_cVI 0 [.int a3.2, .int 4] [] (c_X10_of l hO hX M1 a3.2 4) dX10_account_233 uv_X10_78 rfl yk_X10_of ⟨by decide, by decide⟩ (lm_0 hX).1 (lm_0 hX).2 rfl (Nat.le_of_ble_eq_true rfl) rfl 236 rfl ?_
                                                intro x30
                                                refine g_if_lt 242 (by decide) 239 rfl dX10_account_236 ?_ ?_
                                                · exact hk14 a11
                                                · refine g_iinc 2 rfl 1 (by decide) (fun x31 => [(2, .int x31), (0, .ref (wA Ω 0)), (1, .int p0), (3, .int a3.2)]) 242 rfl dX10_account_239 (by decide) (fun _ => rfl) ?_
                                                  intro x31
                                                  refine g_sub [(0, .ref (wA Ω 0)), (1, .int p0), (2, .int x31), (3, .int a3.2)] [1, 2, 0, 3] rfl ?_
                                                  exact hk14 x31
                                              · exact hk14 a11
                                          · intro k12 hk12
                                            refine g_icmp_ne 224 (by decide) 216 rfl dX10_account_213 ?_ ?_
                                            · refine g_iload_n 2 rfl rfl 217 rfl dX10_account_216 ?_
                                              refine g_aload_n 0 rfl rfl 218 rfl dX10_account_217 ?_
                                              refine g_iload_n 3 rfl rfl 219 rfl dX10_account_218 ?_
                                              refine p_cVI 0 [.int a3.2] [.int a9] (c_X10_waiting l hO hX M1 a3.2) dX10_account_219 uv_X10_210 rfl yk_X10_waiting ⟨by decide, by decide⟩ (lm_0 hX).1 (lm_0 hX).2 rfl (Nat.le_of_ble_eq_true rfl) rfl 222 rfl ?_
                                              intro x32
                                              refine g_iadd 223 rfl dX10_account_222 ?_
                                              refine g_istore_n (fun x33 => [(2, .int x33), (0, .ref (wA Ω 0)), (1, .int p0), (3, .int a3.2)]) rfl 224 rfl dX10_account_223 (by decide) (fun _ => rfl) ?_
                                              intro x33
                                              refine g_sub [(0, .ref (wA Ω 0)), (1, .int p0), (2, .int x33), (3, .int a3.2)] [1, 2, 0, 3] rfl ?_
                                              exact hk12 x33
                                            · exact hk12 a9
                                        · intro k10 hk10
                                          refine g_icmp_ne 210 (by decide) 194 rfl dX10_account_191 ?_ ?_
                                          · refine g_iload_n 2 rfl rfl 195 rfl dX10_account_194 ?_
                                            refine g_aload_n 0 rfl rfl 196 rfl dX10_account_195 ?_
                                            refine g_iload_n 3 rfl rfl 197 rfl dX10_account_196 ?_
                                            refine g_iconst 0 198 rfl dX10_account_197 (by decide) ?_
                                            refine p_cVI 0 [.int a3.2, .int 0] [.int a7] (c_X10_greens l hO hX M1 a3.2 0) dX10_account_198 uv_X10_174 rfl yk_X10_greens ⟨by decide, by decide⟩ (lm_0 hX).1 (lm_0 hX).2 rfl (Nat.le_of_ble_eq_true rfl) rfl 201 rfl ?_
                                            intro x34
                                            refine g_aload_n 0 rfl rfl 202 rfl dX10_account_201 ?_
                                            refine g_iload_n 3 rfl rfl 203 rfl dX10_account_202 ?_
                                            refine g_iconst 1 204 rfl dX10_account_203 (by decide) ?_
                                            refine p_cVI 0 [.int a3.2, .int 1] [.int x34, .int a7] (c_X10_greens l hO hX M1 a3.2 1) dX10_account_204 uv_X10_174 rfl yk_X10_greens ⟨by decide, by decide⟩ (lm_0 hX).1 (lm_0 hX).2 rfl (Nat.le_of_ble_eq_true rfl) rfl 207 rfl ?_
                                            intro x35
                                            refine g_iadd 208 rfl dX10_account_207 ?_
                                            refine g_iadd 209 rfl dX10_account_208 ?_
                                            refine g_istore_n (fun x36 => [(2, .int x36), (0, .ref (wA Ω 0)), (1, .int p0), (3, .int a3.2)]) rfl 210 rfl dX10_account_209 (by decide) (fun _ => rfl) ?_
                                            intro x36
                                            refine g_sub [(0, .ref (wA Ω 0)), (1, .int p0), (2, .int x36), (3, .int a3.2)] [1, 2, 0, 3] rfl ?_
                                            exact hk10 x36
                                          · exact hk10 a7
                                      · intro k8 hk8
                                        refine g_icmp_ne 189 (by decide) 181 rfl dX10_account_178 ?_ ?_
                                        · refine g_iload_n 2 rfl rfl 182 rfl dX10_account_181 ?_
                                          refine g_aload_n 0 rfl rfl 183 rfl dX10_account_182 ?_
                                          refine g_iload_n 3 rfl rfl 184 rfl dX10_account_183 ?_
                                          refine p_cVI 0 [.int a3.2] [.int a5] (c_X10_conflicts l hO hX M1 a3.2) dX10_account_184 uv_X10_127 rfl yk_X10_conflicts ⟨by decide, by decide⟩ (lm_0 hX).1 (lm_0 hX).2 rfl (Nat.le_of_ble_eq_true rfl) rfl 187 rfl ?_
                                          intro x37
                                          refine g_iadd 188 rfl dX10_account_187 ?_
                                          refine g_istore_n (fun x38 => [(2, .int x38), (0, .ref (wA Ω 0)), (1, .int p0), (3, .int a3.2)]) rfl 189 rfl dX10_account_188 (by decide) (fun _ => rfl) ?_
                                          intro x38
                                          refine g_sub [(0, .ref (wA Ω 0)), (1, .int p0), (2, .int x38), (3, .int a3.2)] [1, 2, 0, 3] rfl ?_
                                          exact hk8 x38
                                        · exact hk8 a5
                                    · intro k6 hk6
                                      refine g_icmp_ne 176 (by decide) 167 rfl dX10_account_164 ?_ ?_
                                      · refine g_iload_n 2 rfl rfl 168 rfl dX10_account_167 ?_
                                        refine g_aload_n 0 rfl rfl 169 rfl dX10_account_168 ?_
                                        refine g_iload_n 3 rfl rfl 170 rfl dX10_account_169 ?_
                                        refine g_iconst 2 171 rfl dX10_account_170 (by decide) ?_
                                        refine p_cVI 0 [.int a3.2, .int 2] [.int a3.1] (c_X10_of l hO hX M1 a3.2 2) dX10_account_171 uv_X10_78 rfl yk_X10_of ⟨by decide, by decide⟩ (lm_0 hX).1 (lm_0 hX).2 rfl (Nat.le_of_ble_eq_true rfl) rfl 174 rfl ?_
                                        intro x39
                                        refine g_iadd 175 rfl dX10_account_174 ?_
                                        refine g_istore_n (fun x40 => [(2, .int x40), (0, .ref (wA Ω 0)), (1, .int p0), (3, .int a3.2)]) rfl 176 rfl dX10_account_175 (by decide) (fun _ => rfl) ?_
                                        intro x40
                                        refine g_sub [(0, .ref (wA Ω 0)), (1, .int p0), (2, .int x40), (3, .int a3.2)] [1, 2, 0, 3] rfl ?_
                                        exact hk6 x40
                                      · exact hk6 a3.1
def fX10_meanWait (M : Mem)  : Option (UInt64 × Mem) := bnd (mset M 0 0 0) (fun M1 => grd (inb 4 490) (jn (fun (a2 : UInt64 × Mem) => some (a2.1, a2.2)) (fun k3 => if M1 1 (4 : Int32).toNatClampNeg = 0 then (cl (fX10_raises M1 1) (fun x4 M5 => k3 (FP.i2d x4, M5))) else (grd (inb 5 490) (grd (inb 4 490) (grd (nn64 (FP.ddiv (FP.i2d (M1 1 (5 : Int32).toNatClampNeg)) (FP.i2d (M1 1 (4 : Int32).toNatClampNeg)))) (k3 (FP.ddiv (FP.i2d (M1 1 (5 : Int32).toNatClampNeg)) (FP.i2d (M1 1 (4 : Int32).toNatClampNeg)), M1))))))))
set_option maxRecDepth 100000 in
set_option maxHeartbeats 4000000 in
theorem c_X10_meanWait {Ω : Wd} (l : Launch) (hO : OkW Ω) (hX : LM Ω)  (M : Mem)  : ∀ r, fX10_meanWait M  = some r → Ct l yX10_meanWait (.code yX10_meanWait cX10_meanWait 1 (some .double)) 1 21 Ω [.ref (wA Ω 0)] M (cvD r) := by
  refine ofG [(0, .ref (wA Ω 0))] hO (by decide) rfl (Nat.le_of_ble_eq_true rfl) rfl ?_
  intro p e s m args below meth c
  unfold fX10_meanWait
  refine g_aload_n 0 rfl rfl 1 rfl dX10_meanWait_0 ?_
  refine g_iconst 0 2 rfl dX10_meanWait_1 (by decide) ?_
  refine w_put (lm_0 hX) rfl in_X10 0 (by decide) wf_X10_47 tyX10 tyX10_ok nmX10 rfl rfl rfl rfl 5 rfl dX10_meanWait_2 ?_
  intro M1
  refine g_aload_n 0 rfl rfl 6 rfl dX10_meanWait_5 ?_
  refine w_getR (lm_0 hX) rfl in_X10 1 (by decide) wf_X10_9 1 rfl 9 rfl dX10_meanWait_6 ?_
  refine g_iconst 4 10 rfl dX10_meanWait_9 (by decide) ?_
  refine w_iald (lm_1 hX) 11 rfl dX10_meanWait_10 ?_
  refine g_join 38 (fun a2 => []) (fun a2 => [.double a2.1]) (fun a2 => a2.2) ?_ ?_
  · intro a2
    exact g_dret rfl dX10_meanWait_38
  · intro k3 hk3
    refine g_if_ne 23 (by decide) 14 rfl dX10_meanWait_11 ?_ ?_
    · refine g_aload_n 0 rfl rfl 15 rfl dX10_meanWait_14 ?_
      refine g_iconst 1 16 rfl dX10_meanWait_15 (by decide) ?_
      refine g_cVI 0 [.int 1] [] (c_X10_raises l hO hX M1 1) dX10_meanWait_16 uv_X10_53 rfl yk_X10_raises ⟨by decide, by decide⟩ (lm_0 hX).1 (lm_0 hX).2 rfl (Nat.le_of_ble_eq_true rfl) rfl 19 rfl ?_
      intro x4 M5
      refine f_i2d 20 rfl dX10_meanWait_19 ?_
      refine g_goto 38 (by decide) dX10_meanWait_20 ?_
      refine g_sub [] [] rfl ?_
      exact hk3 (FP.i2d x4, M5)
    · refine g_aload_n 0 rfl rfl 24 rfl dX10_meanWait_23 ?_
      refine w_getR (lm_0 hX) rfl in_X10 1 (by decide) wf_X10_9 1 rfl 27 rfl dX10_meanWait_24 ?_
      refine g_iconst 5 28 rfl dX10_meanWait_27 (by decide) ?_
      refine w_iald (lm_1 hX) 29 rfl dX10_meanWait_28 ?_
      refine f_i2d 30 rfl dX10_meanWait_29 ?_
      refine g_aload_n 0 rfl rfl 31 rfl dX10_meanWait_30 ?_
      refine w_getR (lm_0 hX) rfl in_X10 1 (by decide) wf_X10_9 1 rfl 34 rfl dX10_meanWait_31 ?_
      refine g_iconst 4 35 rfl dX10_meanWait_34 (by decide) ?_
      refine w_iald (lm_1 hX) 36 rfl dX10_meanWait_35 ?_
      refine f_i2d 37 rfl dX10_meanWait_36 ?_
      refine f_ddiv 38 rfl dX10_meanWait_37 ?_
      refine g_sub [] [] rfl ?_
      exact hk3 (FP.ddiv (FP.i2d (M1 1 (5 : Int32).toNatClampNeg)) (FP.i2d (M1 1 (4 : Int32).toNatClampNeg)), M1)
def fX10_append_L1 (p0 : Int32) (k5 : (Int32 × Mem) → Option (Int32 × Mem)) (a4 : Int32 × Mem) : Option (Int32 × Mem) := if a4.1 < 0 then (some (a4.2 0 8, a4.2)) else (bnd (((p0.toUInt32 >>> (a4.1.toUInt32 &&& Int32.toUInt32 31)).toInt32) &&& 255) (fun x6 => jn (fun (a7 : Mem) => bnd (a4.1 + (-8)) (fun x9 => k5 (x9, a7))) (fun k8 => if x6 ≤ 0 then (k8 a4.2) else (bnd (mset a4.2 0 8 ((a4.2 0 8) + 1)) (fun M10 => grd (inb (a4.2 0 8) 60) (bnd (mset M10 5 (a4.2 0 8).toNatClampNeg x6) (fun M11 => k8 M11)))))))
def fX10_append_L2 (p0 : Int32) (M1 : Mem) (k3 : Int32 → Option (Int32 × Mem)) (k15 : Unit → Option (Int32 × Mem)) (k19 : (Int32 × Int32) → Option (Int32 × Mem)) (a18 : Int32 × Int32) : Option (Int32 × Mem) := if a18.2 < 0 then (k3 a18.1) else (bnd (((p0.toUInt32 >>> (a18.2.toUInt32 &&& Int32.toUInt32 31)).toInt32) &&& 255) (fun x20 => jn (fun (a21 : Int32) => bnd (a18.2 + (-8)) (fun x23 => k19 (a21, x23))) (fun k22 => if x20 = 0 then (k22 a18.1) else (clp (fX10_in M1 x20 33 126) (fun x24 => if x24 = 0 then (k15 ()) else (bnd (a18.1 + 1) (fun x25 => k22 x25)))))))
def fX10_append (M : Mem) (p0 : Int32) : Option (Int32 × Mem) := bnd (mset M 0 0 0) (fun M1 => jn (fun (a2 : Int32) => if (M1 0 8) + a2 ≤ 60 then (lp (fX10_append_L1 p0) FU (24, M1)) else (cl (fX10_raises M1 2) (fun x12 M13 => some (x12, M13)))) (fun k3 => jn (fun (a14 : Unit) => cl (fX10_raises M1 1) (fun x16 M17 => some (x16, M17))) (fun k15 => lp (fX10_append_L2 p0 M1 k3 k15) FU (0, 24))))
set_option maxRecDepth 100000 in
set_option maxHeartbeats 4000000 in
theorem c_X10_append {Ω : Wd} (l : Launch) (hO : OkW Ω) (hX : LM Ω)  (M : Mem) (p0 : Int32) : ∀ r, fX10_append M p0 = some r → Ct l yX10_append (.code yX10_append cX10_append 5 (some .int)) 1 22 Ω [.ref (wA Ω 0), .int p0] M (cvI r) := by
  refine ofG [(0, .ref (wA Ω 0)), (1, .int p0)] hO (by decide) rfl (Nat.le_of_ble_eq_true rfl) rfl ?_
  intro p e s m args below meth c
  unfold fX10_append
  refine g_aload_n 0 rfl rfl 1 rfl dX10_append_0 ?_
  refine g_iconst 0 2 rfl dX10_append_1 (by decide) ?_
  refine w_put (lm_0 hX) rfl in_X10 0 (by decide) wf_X10_47 tyX10 tyX10_ok nmX10 rfl rfl rfl rfl 5 rfl dX10_append_2 ?_
  intro M1
  refine g_iconst 0 6 rfl dX10_append_5 (by decide) ?_
  refine g_istore_nA [(2, .int 0), (0, .ref (wA Ω 0)), (1, .int p0)] rfl 7 rfl dX10_append_6 (by decide) rfl ?_
  refine g_bipush 24 9 rfl dX10_append_7 (by decide) ?_
  refine g_istore_nA [(3, .int 24), (2, .int 0), (0, .ref (wA Ω 0)), (1, .int p0)] rfl 10 rfl dX10_append_9 (by decide) rfl ?_
  refine g_join 58 (fun a2 => [(0, .ref (wA Ω 0)), (1, .int p0), (2, .int a2)]) (fun a2 => []) (fun a2 => M1) ?_ ?_
  · intro a2
    refine g_aload_n 0 rfl rfl 59 rfl dX10_append_58 ?_
    refine w_get (lm_0 hX) rfl in_X10 8 (by decide) wf_X10_232 rfl 62 rfl dX10_append_59 ?_
    refine g_iload_n 2 rfl rfl 63 rfl dX10_append_62 ?_
    refine g_iadd 64 rfl dX10_append_63 ?_
    refine g_bipush 60 66 rfl dX10_append_64 (by decide) ?_
    refine g_icmp_le 75 (by decide) 69 rfl dX10_append_66 ?_ ?_
    · refine g_bipush 24 77 rfl dX10_append_75 (by decide) ?_
      refine g_istore_nA [(3, .int 24), (0, .ref (wA Ω 0)), (1, .int p0), (2, .int a2)] rfl 78 rfl dX10_append_77 (by decide) rfl ?_
      refine g_sub [(0, .ref (wA Ω 0)), (1, .int p0), (3, .int 24)] [1, 2, 0] rfl ?_
      refine g_loop 78 (fun a4 => [(0, .ref (wA Ω 0)), (1, .int p0), (3, .int a4.1)]) (fun _ => []) (fun a4 => a4.2) ?_ FU (24, M1)
      intro k5 hk5 a4
      unfold fX10_append_L1
      refine g_iload_n 2 rfl rfl 79 rfl dX10_append_78 ?_
      refine g_if_lt 120 (by decide) 82 rfl dX10_append_79 ?_ ?_
      · refine g_aload_n 0 rfl rfl 121 rfl dX10_append_120 ?_
        refine w_get (lm_0 hX) rfl in_X10 8 (by decide) wf_X10_232 rfl 124 rfl dX10_append_121 ?_
        exact g_iret rfl dX10_append_124
      · refine g_iload_n 1 rfl rfl 83 rfl dX10_append_82 ?_
        refine g_iload_n 2 rfl rfl 84 rfl dX10_append_83 ?_
        refine g_iushr 85 rfl dX10_append_84 ?_
        refine g_sipush 255 88 rfl dX10_append_85 (by decide) ?_
        refine g_iand 89 rfl dX10_append_88 ?_
        refine g_istore (fun x6 => [(4, .int x6), (0, .ref (wA Ω 0)), (1, .int p0), (3, .int a4.1)]) 91 rfl dX10_append_89 (by decide) (fun _ => rfl) ?_
        intro x6
        refine g_iload 0 rfl 93 rfl dX10_append_91 ?_
        refine g_join 114 (fun a7 => [(0, .ref (wA Ω 0)), (1, .int p0), (3, .int a4.1)]) (fun a7 => []) (fun a7 => a7) ?_ ?_
        · intro a7
          refine g_iinc 2 rfl (-8) (by decide) (fun x9 => [(3, .int x9), (0, .ref (wA Ω 0)), (1, .int p0)]) 117 rfl dX10_append_114 (by decide) (fun _ => rfl) ?_
          intro x9
          refine g_goto 78 (by decide) dX10_append_117 ?_
          refine g_sub [(0, .ref (wA Ω 0)), (1, .int p0), (3, .int x9)] [1, 2, 0] rfl ?_
          exact hk5 (x9, a7)
        · intro k8 hk8
          refine g_if_le 114 (by decide) 96 rfl dX10_append_93 ?_ ?_
          · refine g_sub [(0, .ref (wA Ω 0)), (1, .int p0), (3, .int a4.1)] [1, 2, 3] rfl ?_
            exact hk8 a4.2
          · refine g_aload_n 1 rfl rfl 97 rfl dX10_append_96 ?_
            refine w_getR (lm_0 hX) rfl in_X10 7 (by decide) wf_X10_22 5 rfl 100 rfl dX10_append_97 ?_
            refine g_aload_n 1 rfl rfl 101 rfl dX10_append_100 ?_
            refine g_dup 102 rfl dX10_append_101 rfl ?_
            refine w_get (lm_0 hX) rfl in_X10 8 (by decide) wf_X10_232 rfl 105 rfl dX10_append_102 ?_
            refine g_dup_x1 106 rfl dX10_append_105 rfl rfl ?_
            refine g_iconst 1 107 rfl dX10_append_106 (by decide) ?_
            refine g_iadd 108 rfl dX10_append_107 ?_
            refine w_put (lm_0 hX) rfl in_X10 8 (by decide) wf_X10_232 tyX10 tyX10_ok nmX10 rfl rfl rfl rfl 111 rfl dX10_append_108 ?_
            intro M10
            refine g_iload 0 rfl 113 rfl dX10_append_111 ?_
            refine w_iast (lm_5 hX) 114 rfl dX10_append_113 ?_
            intro M11
            refine g_sub [(0, .ref (wA Ω 0)), (1, .int p0), (3, .int a4.1)] [1, 2, 3] rfl ?_
            exact hk8 M11
    · refine g_aload_n 0 rfl rfl 70 rfl dX10_append_69 ?_
      refine g_iconst 2 71 rfl dX10_append_70 (by decide) ?_
      refine g_cVI 0 [.int 2] [] (c_X10_raises l hO hX M1 2) dX10_append_71 uv_X10_53 rfl yk_X10_raises ⟨by decide, by decide⟩ (lm_0 hX).1 (lm_0 hX).2 rfl (Nat.le_of_ble_eq_true rfl) rfl 74 rfl ?_
      intro x12 M13
      exact g_iret rfl dX10_append_74
  · intro k3 hk3
    refine g_join 43 (fun a14 => [(0, .ref (wA Ω 0))]) (fun a14 => []) (fun a14 => M1) ?_ ?_
    · intro a14
      refine g_aload_n 0 rfl rfl 44 rfl dX10_append_43 ?_
      refine g_iconst 1 45 rfl dX10_append_44 (by decide) ?_
      refine g_cVI 0 [.int 1] [] (c_X10_raises l hO hX M1 1) dX10_append_45 uv_X10_53 rfl yk_X10_raises ⟨by decide, by decide⟩ (lm_0 hX).1 (lm_0 hX).2 rfl (Nat.le_of_ble_eq_true rfl) rfl 48 rfl ?_
      intro x16 M17
      exact g_iret rfl dX10_append_48
    · intro k15 hk15
      refine g_sub [(0, .ref (wA Ω 0)), (1, .int p0), (2, .int 0), (3, .int 24)] [2, 3, 1, 0] rfl ?_
      refine g_loop 10 (fun a18 => [(0, .ref (wA Ω 0)), (1, .int p0), (2, .int a18.1), (3, .int a18.2)]) (fun _ => []) (fun a18 => M1) ?_ FU (0, 24)
      intro k19 hk19 a18
      unfold fX10_append_L2
      refine g_iload_n 3 rfl rfl 11 rfl dX10_append_10 ?_
      refine g_if_lt 58 (by decide) 14 rfl dX10_append_11 ?_ ?_
      · refine g_sub [(0, .ref (wA Ω 0)), (1, .int p0), (2, .int a18.1)] [0, 1, 2] rfl ?_
        exact hk3 a18.1
      · refine g_iload_n 1 rfl rfl 15 rfl dX10_append_14 ?_
        refine g_iload_n 3 rfl rfl 16 rfl dX10_append_15 ?_
        refine g_iushr 17 rfl dX10_append_16 ?_
        refine g_sipush 255 20 rfl dX10_append_17 (by decide) ?_
        refine g_iand 21 rfl dX10_append_20 ?_
        refine g_istore (fun x20 => [(4, .int x20), (0, .ref (wA Ω 0)), (1, .int p0), (2, .int a18.1), (3, .int a18.2)]) 23 rfl dX10_append_21 (by decide) (fun _ => rfl) ?_
        intro x20
        refine g_iload 0 rfl 25 rfl dX10_append_23 ?_
        refine g_join 52 (fun a21 => [(0, .ref (wA Ω 0)), (1, .int p0), (2, .int a21), (3, .int a18.2)]) (fun a21 => []) (fun a21 => M1) ?_ ?_
        · intro a21
          refine g_iinc 3 rfl (-8) (by decide) (fun x23 => [(3, .int x23), (0, .ref (wA Ω 0)), (1, .int p0), (2, .int a21)]) 55 rfl dX10_append_52 (by decide) (fun _ => rfl) ?_
          intro x23
          refine g_goto 10 (by decide) dX10_append_55 ?_
          refine g_sub [(0, .ref (wA Ω 0)), (1, .int p0), (2, .int a21), (3, .int x23)] [1, 2, 3, 0] rfl ?_
          exact hk19 (a21, x23)
        · intro k22 hk22
          refine g_if_ne 31 (by decide) 28 rfl dX10_append_25 ?_ ?_
          · refine g_goto 52 (by decide) dX10_append_28 ?_
            refine g_sub [(0, .ref (wA Ω 0)), (1, .int p0), (2, .int a18.1), (3, .int a18.2)] [1, 2, 3, 4] rfl ?_
            exact hk22 a18.1
          · refine g_iload 0 rfl 33 rfl dX10_append_31 ?_
            refine g_bipush 33 35 rfl dX10_append_33 (by decide) ?_
            refine g_bipush 126 37 rfl dX10_append_35 (by decide) ?_
            refine p_cSI [.int x20, .int 33, .int 126] [] (c_X10_in l hO M1 x20 33 126) dX10_append_37 us_X10_70 rfl yk_X10_in ⟨by decide, by decide⟩ (Nat.le_of_ble_eq_true rfl) rfl 40 rfl ?_
            intro x24
            refine g_if_ne 49 (by decide) 43 rfl dX10_append_40 ?_ ?_
            · refine g_sub [(0, .ref (wA Ω 0))] [1] rfl ?_
              exact hk15 ()
            · refine g_iinc 3 rfl 1 (by decide) (fun x25 => [(2, .int x25), (4, .int x20), (0, .ref (wA Ω 0)), (1, .int p0), (3, .int a18.2)]) 52 rfl dX10_append_49 (by decide) (fun _ => rfl) ?_
              intro x25
              refine g_sub [(0, .ref (wA Ω 0)), (1, .int p0), (2, .int x25), (3, .int a18.2)] [2, 3, 0, 4] rfl ?_
              exact hk22 x25
def fX10_here (M : Mem)  : Option Int32 := jn (fun (a1 : Int32) => some a1) (fun k2 => if M 0 8 ≤ M 0 9 then (k2 0) else (grd (inb (M 0 9) 60) (k2 (M 5 (M 0 9).toNatClampNeg))))
set_option maxRecDepth 100000 in
set_option maxHeartbeats 4000000 in
theorem c_X10_here {Ω : Wd} (l : Launch) (hO : OkW Ω) (hX : LM Ω)  (M : Mem)  : ∀ r, fX10_here M  = some r → Ct l yX10_here (.code yX10_here cX10_here 1 (some .int)) 0 0 Ω [.ref (wA Ω 0)] M ((cpI M) r) := by
  refine ofG [(0, .ref (wA Ω 0))] hO (by decide) rfl (Nat.le_of_ble_eq_true rfl) rfl ?_
  intro p e s m args below meth c
  unfold fX10_here
  refine g_aload_n 0 rfl rfl 1 rfl dX10_here_0 ?_
  refine w_get (lm_0 hX) rfl in_X10 9 (by decide) wf_X10_240 rfl 4 rfl dX10_here_1 ?_
  refine g_aload_n 0 rfl rfl 5 rfl dX10_here_4 ?_
  refine w_get (lm_0 hX) rfl in_X10 8 (by decide) wf_X10_232 rfl 8 rfl dX10_here_5 ?_
  refine g_join 24 (fun a1 => []) (fun a1 => [.int a1]) (fun a1 => M) ?_ ?_
  · intro a1
    exact p_iret rfl dX10_here_24
  · intro k2 hk2
    refine g_icmp_ge 23 (by decide) 11 rfl dX10_here_8 ?_ ?_
    · refine g_iconst 0 24 rfl dX10_here_23 (by decide) ?_
      refine g_sub [] [] rfl ?_
      exact hk2 0
    · refine g_aload_n 0 rfl rfl 12 rfl dX10_here_11 ?_
      refine w_getR (lm_0 hX) rfl in_X10 7 (by decide) wf_X10_22 5 rfl 15 rfl dX10_here_12 ?_
      refine g_aload_n 0 rfl rfl 16 rfl dX10_here_15 ?_
      refine w_get (lm_0 hX) rfl in_X10 9 (by decide) wf_X10_240 rfl 19 rfl dX10_here_16 ?_
      refine w_iald (lm_5 hX) 20 rfl dX10_here_19 ?_
      refine g_goto 24 (by decide) dX10_here_20 ?_
      refine g_sub [] [] rfl ?_
      exact hk2 (M 5 (M 0 9).toNatClampNeg)
def fX10_takes (M : Mem) (p0 : Int32) : Option (Int32 × Mem) := clp (fX10_here M) (fun x1 => if x1 = p0 then (bnd (mset M 0 9 ((M 0 9) + 1)) (fun M2 => some (1, M2))) else (some (0, M)))
set_option maxRecDepth 100000 in
set_option maxHeartbeats 4000000 in
theorem c_X10_takes {Ω : Wd} (l : Launch) (hO : OkW Ω) (hX : LM Ω)  (M : Mem) (p0 : Int32) : ∀ r, fX10_takes M p0 = some r → Ct l yX10_takes (.code yX10_takes cX10_takes 2 (some .boolean)) 1 20 Ω [.ref (wA Ω 0), .int p0] M (cvI r) := by
  refine ofG [(0, .ref (wA Ω 0)), (1, .int p0)] hO (by decide) rfl (Nat.le_of_ble_eq_true rfl) rfl ?_
  intro p e s m args below meth c
  unfold fX10_takes
  refine g_aload_n 0 rfl rfl 1 rfl dX10_takes_0 ?_
  refine p_cVI 0 [] [] (c_X10_here l hO hX M) dX10_takes_1 uv_X10_242 rfl yk_X10_here ⟨by decide, by decide⟩ (lm_0 hX).1 (lm_0 hX).2 rfl (Nat.le_of_ble_eq_true rfl) rfl 4 rfl ?_
  intro x1
  refine g_iload_n 1 rfl rfl 5 rfl dX10_takes_4 ?_
  refine g_icmp_eq 10 (by decide) 8 rfl dX10_takes_5 ?_ ?_
  · refine g_aload_n 0 rfl rfl 11 rfl dX10_takes_10 ?_
    refine g_dup 12 rfl dX10_takes_11 rfl ?_
    refine w_get (lm_0 hX) rfl in_X10 9 (by decide) wf_X10_240 rfl 15 rfl dX10_takes_12 ?_
    refine g_iconst 1 16 rfl dX10_takes_15 (by decide) ?_
    refine g_iadd 17 rfl dX10_takes_16 ?_
    refine w_put (lm_0 hX) rfl in_X10 9 (by decide) wf_X10_240 tyX10 tyX10_ok nmX10 rfl rfl rfl rfl 20 rfl dX10_takes_17 ?_
    intro M2
    refine g_iconst 1 21 rfl dX10_takes_20 (by decide) ?_
    exact g_zret rfl rfl dX10_takes_21
  · refine g_iconst 0 9 rfl dX10_takes_8 (by decide) ?_
    exact g_zret rfl rfl dX10_takes_9
def fX10_number_L1 (k6 : (Int32 × Mem) → Option (Int32 × Mem)) (k9 : (Int32 × Int32 × Mem) → Option (Int32 × Mem)) (a8 : Int32 × Int32 × Mem) : Option (Int32 × Mem) := if 4 ≤ a8.2.1 then (k6 (a8.1, a8.2.2)) else (if a8.1 ≤ 0 then (k6 (a8.1, a8.2.2)) else (clp (fX10_here a8.2.2) (fun x10 => clp (fX10_in a8.2.2 x10 48 57) (fun x11 => if x11 = 0 then (k6 (a8.1, a8.2.2)) else (bnd (mset a8.2.2 0 9 ((a8.2.2 0 9) + 1)) (fun M12 => grd (inb (a8.2.2 0 9) 60) (bnd (((10 * a8.1) + (M12 5 (a8.2.2 0 9).toNatClampNeg)) - 48) (fun x13 => bnd (a8.2.1 + 1) (fun x14 => k9 (x13, x14, M12))))))))))
def fX10_number (M : Mem) (p0 : Int32) : Option (Int32 × Mem) := clp (fX10_here M) (fun x1 => clp (fX10_in M x1 48 57) (fun x2 => if x2 = 0 then (some (0, M)) else (bnd (mset M 0 9 ((M 0 9) + 1)) (fun M3 => grd (inb (M 0 9) 60) (bnd ((M3 5 (M 0 9).toNatClampNeg) - 48) (fun x4 => jn (fun (a5 : Int32 × Mem) => grd (inb p0 5) (bnd (mset a5.2 7 p0.toNatClampNeg a5.1) (fun M7 => some (1, M7)))) (fun k6 => lp (fX10_number_L1 k6) FU (x4, 1, M3))))))))
set_option maxRecDepth 100000 in
set_option maxHeartbeats 4000000 in
theorem c_X10_number {Ω : Wd} (l : Launch) (hO : OkW Ω) (hX : LM Ω)  (M : Mem) (p0 : Int32) : ∀ r, fX10_number M p0 = some r → Ct l yX10_number (.code yX10_number cX10_number 4 (some .boolean)) 1 22 Ω [.ref (wA Ω 0), .int p0] M (cvI r) := by
  refine ofG [(0, .ref (wA Ω 0)), (1, .int p0)] hO (by decide) rfl (Nat.le_of_ble_eq_true rfl) rfl ?_
  intro p e s m args below meth c
  unfold fX10_number
  refine g_aload_n 0 rfl rfl 1 rfl dX10_number_0 ?_
  refine p_cVI 0 [] [] (c_X10_here l hO hX M) dX10_number_1 uv_X10_242 rfl yk_X10_here ⟨by decide, by decide⟩ (lm_0 hX).1 (lm_0 hX).2 rfl (Nat.le_of_ble_eq_true rfl) rfl 4 rfl ?_
  intro x1
  refine g_bipush 48 6 rfl dX10_number_4 (by decide) ?_
  refine g_bipush 57 8 rfl dX10_number_6 (by decide) ?_
  refine p_cSI [.int x1, .int 48, .int 57] [] (c_X10_in l hO M x1 48 57) dX10_number_8 us_X10_70 rfl yk_X10_in ⟨by decide, by decide⟩ (Nat.le_of_ble_eq_true rfl) rfl 11 rfl ?_
  intro x2
  refine g_if_ne 16 (by decide) 14 rfl dX10_number_11 ?_ ?_
  · refine g_iconst 0 15 rfl dX10_number_14 (by decide) ?_
    exact g_zret rfl rfl dX10_number_15
  · refine g_aload_n 0 rfl rfl 17 rfl dX10_number_16 ?_
    refine w_getR (lm_0 hX) rfl in_X10 7 (by decide) wf_X10_22 5 rfl 20 rfl dX10_number_17 ?_
    refine g_aload_n 0 rfl rfl 21 rfl dX10_number_20 ?_
    refine g_dup 22 rfl dX10_number_21 rfl ?_
    refine w_get (lm_0 hX) rfl in_X10 9 (by decide) wf_X10_240 rfl 25 rfl dX10_number_22 ?_
    refine g_dup_x1 26 rfl dX10_number_25 rfl rfl ?_
    refine g_iconst 1 27 rfl dX10_number_26 (by decide) ?_
    refine g_iadd 28 rfl dX10_number_27 ?_
    refine w_put (lm_0 hX) rfl in_X10 9 (by decide) wf_X10_240 tyX10 tyX10_ok nmX10 rfl rfl rfl rfl 31 rfl dX10_number_28 ?_
    intro M3
    refine w_iald (lm_5 hX) 32 rfl dX10_number_31 ?_
    refine g_bipush 48 34 rfl dX10_number_32 (by decide) ?_
    refine g_isub 35 rfl dX10_number_34 ?_
    refine g_istore_n (fun x4 => [(2, .int x4), (0, .ref (wA Ω 0)), (1, .int p0)]) rfl 36 rfl dX10_number_35 (by decide) (fun _ => rfl) ?_
    intro x4
    refine g_iconst 1 37 rfl dX10_number_36 (by decide) ?_
    refine g_istore_nA [(3, .int 1), (2, .int x4), (0, .ref (wA Ω 0)), (1, .int p0)] rfl 38 rfl dX10_number_37 (by decide) rfl ?_
    refine g_join 92 (fun a5 => [(0, .ref (wA Ω 0)), (1, .int p0), (2, .int a5.1)]) (fun a5 => []) (fun a5 => a5.2) ?_ ?_
    · intro a5
      refine g_aload_n 0 rfl rfl 93 rfl dX10_number_92 ?_
      refine w_getR (lm_0 hX) rfl in_X10 14 (by decide) wf_X10_32 7 rfl 96 rfl dX10_number_93 ?_
      refine g_iload_n 1 rfl rfl 97 rfl dX10_number_96 ?_
      refine g_iload_n 2 rfl rfl 98 rfl dX10_number_97 ?_
      refine w_iast (lm_7 hX) 99 rfl dX10_number_98 ?_
      intro M7
      refine g_iconst 1 100 rfl dX10_number_99 (by decide) ?_
      exact g_zret rfl rfl dX10_number_100
    · intro k6 hk6
      refine g_sub [(0, .ref (wA Ω 0)), (1, .int p0), (2, .int x4), (3, .int 1)] [2, 3, 1, 0] rfl ?_
      refine g_loop 38 (fun a8 => [(0, .ref (wA Ω 0)), (1, .int p0), (2, .int a8.1), (3, .int a8.2.1)]) (fun _ => []) (fun a8 => a8.2.2) ?_ FU (x4, 1, M3)
      intro k9 hk9 a8
      unfold fX10_number_L1
      refine g_iload_n 3 rfl rfl 39 rfl dX10_number_38 ?_
      refine g_iconst 4 40 rfl dX10_number_39 (by decide) ?_
      refine g_icmp_ge 92 (by decide) 43 rfl dX10_number_40 ?_ ?_
      · refine g_sub [(0, .ref (wA Ω 0)), (1, .int p0), (2, .int a8.1)] [0, 1, 2] rfl ?_
        exact hk6 (a8.1, a8.2.2)
      · refine g_iload_n 2 rfl rfl 44 rfl dX10_number_43 ?_
        refine g_if_le 92 (by decide) 47 rfl dX10_number_44 ?_ ?_
        · refine g_sub [(0, .ref (wA Ω 0)), (1, .int p0), (2, .int a8.1)] [0, 1, 2] rfl ?_
          exact hk6 (a8.1, a8.2.2)
        · refine g_aload_n 0 rfl rfl 48 rfl dX10_number_47 ?_
          refine p_cVI 0 [] [] (c_X10_here l hO hX a8.2.2) dX10_number_48 uv_X10_242 rfl yk_X10_here ⟨by decide, by decide⟩ (lm_0 hX).1 (lm_0 hX).2 rfl (Nat.le_of_ble_eq_true rfl) rfl 51 rfl ?_
          intro x10
          refine g_bipush 48 53 rfl dX10_number_51 (by decide) ?_
          refine g_bipush 57 55 rfl dX10_number_53 (by decide) ?_
          refine p_cSI [.int x10, .int 48, .int 57] [] (c_X10_in l hO a8.2.2 x10 48 57) dX10_number_55 us_X10_70 rfl yk_X10_in ⟨by decide, by decide⟩ (Nat.le_of_ble_eq_true rfl) rfl 58 rfl ?_
          intro x11
          refine g_if_eq 92 (by decide) 61 rfl dX10_number_58 ?_ ?_
          · refine g_sub [(0, .ref (wA Ω 0)), (1, .int p0), (2, .int a8.1)] [0, 1, 2] rfl ?_
            exact hk6 (a8.1, a8.2.2)
          · refine g_bipush 10 63 rfl dX10_number_61 (by decide) ?_
            refine g_iload_n 2 rfl rfl 64 rfl dX10_number_63 ?_
            refine g_imul 65 rfl dX10_number_64 ?_
            refine g_aload_n 0 rfl rfl 66 rfl dX10_number_65 ?_
            refine w_getR (lm_0 hX) rfl in_X10 7 (by decide) wf_X10_22 5 rfl 69 rfl dX10_number_66 ?_
            refine g_aload_n 0 rfl rfl 70 rfl dX10_number_69 ?_
            refine g_dup 71 rfl dX10_number_70 rfl ?_
            refine w_get (lm_0 hX) rfl in_X10 9 (by decide) wf_X10_240 rfl 74 rfl dX10_number_71 ?_
            refine g_dup_x1 75 rfl dX10_number_74 rfl rfl ?_
            refine g_iconst 1 76 rfl dX10_number_75 (by decide) ?_
            refine g_iadd 77 rfl dX10_number_76 ?_
            refine w_put (lm_0 hX) rfl in_X10 9 (by decide) wf_X10_240 tyX10 tyX10_ok nmX10 rfl rfl rfl rfl 80 rfl dX10_number_77 ?_
            intro M12
            refine w_iald (lm_5 hX) 81 rfl dX10_number_80 ?_
            refine g_iadd 82 rfl dX10_number_81 ?_
            refine g_bipush 48 84 rfl dX10_number_82 (by decide) ?_
            refine g_isub 85 rfl dX10_number_84 ?_
            refine g_istore_n (fun x13 => [(2, .int x13), (0, .ref (wA Ω 0)), (1, .int p0), (3, .int a8.2.1)]) rfl 86 rfl dX10_number_85 (by decide) (fun _ => rfl) ?_
            intro x13
            refine g_iinc 3 rfl 1 (by decide) (fun x14 => [(3, .int x14), (2, .int x13), (0, .ref (wA Ω 0)), (1, .int p0)]) 89 rfl dX10_number_86 (by decide) (fun _ => rfl) ?_
            intro x14
            refine g_goto 38 (by decide) dX10_number_89 ?_
            refine g_sub [(0, .ref (wA Ω 0)), (1, .int p0), (2, .int x13), (3, .int x14)] [2, 3, 1, 0] rfl ?_
            exact hk9 (x13, x14, M12)
def fX10_items_L1 (a1 : Int32) (k4 : Mem → Option (Int32 × Mem)) (k8 : Mem → Option (Int32 × Mem)) (k10 : (Int32 × Mem) → Option (Int32 × Mem)) (a9 : Int32 × Mem) : Option (Int32 × Mem) := if a1 ≤ a9.1 then (k4 a9.2) else (jn (fun (a11 : Mem) => cl (fX10_number a11 a9.1) (fun x13 M14 => if x13 = 0 then (k8 M14) else (bnd (a9.1 + 1) (fun x15 => k10 (x15, M14))))) (fun k12 => if a9.1 ≤ 0 then (k12 a9.2) else (cl (fX10_takes a9.2 44) (fun x16 M17 => if x16 = 0 then (k8 M17) else (k12 M17)))))
def fX10_items (M : Mem) (p0 : Int32) : Option (Int32 × Mem) := jn (fun (a1 : Int32) => jn (fun (a3 : Mem) => cl (fX10_takes a3 59) (fun x5 M6 => grd (isb x5) (some (x5, M6)))) (fun k4 => jn (fun (a7 : Mem) => some (0, a7)) (fun k8 => lp (fX10_items_L1 a1 k4 k8) FU (0, M)))) (fun k2 => if p0 = 0 then (k2 5) else (if 3 ≤ p0 then (if 5 ≤ p0 then (k2 3) else (k2 1)) else (k2 2)))
set_option maxRecDepth 100000 in
set_option maxHeartbeats 4000000 in
theorem c_X10_items {Ω : Wd} (l : Launch) (hO : OkW Ω) (hX : LM Ω)  (M : Mem) (p0 : Int32) : ∀ r, fX10_items M p0 = some r → Ct l yX10_items (.code yX10_items cX10_items 4 (some .boolean)) 2 45 Ω [.ref (wA Ω 0), .int p0] M (cvI r) := by
  refine ofG [(0, .ref (wA Ω 0)), (1, .int p0)] hO (by decide) rfl (Nat.le_of_ble_eq_true rfl) rfl ?_
  intro p e s m args below meth c
  unfold fX10_items
  refine g_iload_n 1 rfl rfl 1 rfl dX10_items_0 ?_
  refine g_join 27 (fun a1 => [(0, .ref (wA Ω 0))]) (fun a1 => [.int a1]) (fun a1 => M) ?_ ?_
  · intro a1
    refine g_istore_nA [(2, .int a1), (0, .ref (wA Ω 0))] rfl 28 rfl dX10_items_27 (by decide) rfl ?_
    refine g_iconst 0 29 rfl dX10_items_28 (by decide) ?_
    refine g_istore_nA [(3, .int 0), (2, .int a1), (0, .ref (wA Ω 0))] rfl 30 rfl dX10_items_29 (by decide) rfl ?_
    refine g_join 64 (fun a3 => [(0, .ref (wA Ω 0))]) (fun a3 => []) (fun a3 => a3) ?_ ?_
    · intro a3
      refine g_aload_n 0 rfl rfl 65 rfl dX10_items_64 ?_
      refine g_bipush 59 67 rfl dX10_items_65 (by decide) ?_
      refine g_cVI 0 [.int 59] [] (c_X10_takes l hO hX a3 59) dX10_items_67 uv_X10_253 rfl yk_X10_takes ⟨by decide, by decide⟩ (lm_0 hX).1 (lm_0 hX).2 rfl (Nat.le_of_ble_eq_true rfl) rfl 70 rfl ?_
      intro x5 M6
      exact g_bret rfl dX10_items_70
    · intro k4 hk4
      refine g_join 56 (fun a7 => []) (fun a7 => []) (fun a7 => a7) ?_ ?_
      · intro a7
        refine g_iconst 0 57 rfl dX10_items_56 (by decide) ?_
        exact g_zret rfl rfl dX10_items_57
      · intro k8 hk8
        refine g_sub [(0, .ref (wA Ω 0)), (2, .int a1), (3, .int 0)] [2, 1, 0] rfl ?_
        refine g_loop 30 (fun a9 => [(0, .ref (wA Ω 0)), (2, .int a1), (3, .int a9.1)]) (fun _ => []) (fun a9 => a9.2) ?_ FU (0, M)
        intro k10 hk10 a9
        unfold fX10_items_L1
        refine g_iload_n 2 rfl rfl 31 rfl dX10_items_30 ?_
        refine g_iload_n 1 rfl rfl 32 rfl dX10_items_31 ?_
        refine g_icmp_ge 64 (by decide) 35 rfl dX10_items_32 ?_ ?_
        · refine g_sub [(0, .ref (wA Ω 0))] [0] rfl ?_
          exact hk4 a9.2
        · refine g_iload_n 2 rfl rfl 36 rfl dX10_items_35 ?_
          refine g_join 48 (fun a11 => [(0, .ref (wA Ω 0)), (2, .int a1), (3, .int a9.1)]) (fun a11 => []) (fun a11 => a11) ?_ ?_
          · intro a11
            refine g_aload_n 0 rfl rfl 49 rfl dX10_items_48 ?_
            refine g_iload_n 2 rfl rfl 50 rfl dX10_items_49 ?_
            refine g_cVI 0 [.int a9.1] [] (c_X10_number l hO hX a11 a9.1) dX10_items_50 uv_X10_256 rfl yk_X10_number ⟨by decide, by decide⟩ (lm_0 hX).1 (lm_0 hX).2 rfl (Nat.le_of_ble_eq_true rfl) rfl 53 rfl ?_
            intro x13 M14
            refine g_if_ne 58 (by decide) 56 rfl dX10_items_53 ?_ ?_
            · refine g_sub [] [] rfl ?_
              exact hk8 M14
            · refine g_iinc 2 rfl 1 (by decide) (fun x15 => [(3, .int x15), (0, .ref (wA Ω 0)), (2, .int a1)]) 61 rfl dX10_items_58 (by decide) (fun _ => rfl) ?_
              intro x15
              refine g_goto 30 (by decide) dX10_items_61 ?_
              refine g_sub [(0, .ref (wA Ω 0)), (2, .int a1), (3, .int x15)] [1, 2, 0] rfl ?_
              exact hk10 (x15, M14)
          · intro k12 hk12
            refine g_if_le 48 (by decide) 39 rfl dX10_items_36 ?_ ?_
            · exact hk12 a9.2
            · refine g_aload_n 0 rfl rfl 40 rfl dX10_items_39 ?_
              refine g_bipush 44 42 rfl dX10_items_40 (by decide) ?_
              refine g_cVI 0 [.int 44] [] (c_X10_takes l hO hX a9.2 44) dX10_items_42 uv_X10_253 rfl yk_X10_takes ⟨by decide, by decide⟩ (lm_0 hX).1 (lm_0 hX).2 rfl (Nat.le_of_ble_eq_true rfl) rfl 45 rfl ?_
              intro x16 M17
              refine g_if_eq 56 (by decide) 48 rfl dX10_items_45 ?_ ?_
              · refine g_sub [] [] rfl ?_
                exact hk8 M17
              · exact hk12 M17
  · intro k2 hk2
    refine g_if_ne 8 (by decide) 4 rfl dX10_items_1 ?_ ?_
    · refine g_iconst 5 5 rfl dX10_items_4 (by decide) ?_
      refine g_goto 27 (by decide) dX10_items_5 ?_
      refine g_sub [(0, .ref (wA Ω 0))] [0] rfl ?_
      exact hk2 5
    · refine g_iload_n 1 rfl rfl 9 rfl dX10_items_8 ?_
      refine g_iconst 3 10 rfl dX10_items_9 (by decide) ?_
      refine g_icmp_ge 17 (by decide) 13 rfl dX10_items_10 ?_ ?_
      · refine g_iload_n 1 rfl rfl 18 rfl dX10_items_17 ?_
        refine g_iconst 5 19 rfl dX10_items_18 (by decide) ?_
        refine g_icmp_ge 26 (by decide) 22 rfl dX10_items_19 ?_ ?_
        · refine g_iconst 3 27 rfl dX10_items_26 (by decide) ?_
          refine g_sub [(0, .ref (wA Ω 0))] [0] rfl ?_
          exact hk2 3
        · refine g_iconst 1 23 rfl dX10_items_22 (by decide) ?_
          refine g_goto 27 (by decide) dX10_items_23 ?_
          refine g_sub [(0, .ref (wA Ω 0))] [0] rfl ?_
          exact hk2 1
      · refine g_iconst 2 14 rfl dX10_items_13 (by decide) ?_
        refine g_goto 27 (by decide) dX10_items_14 ?_
        refine g_sub [(0, .ref (wA Ω 0))] [0] rfl ?_
        exact hk2 2
def fX10_errorPosition (M : Mem)  : Option (Int32 × Mem) := bnd (mset M 0 0 0) (fun M1 => some (M1 0 10, M1))
set_option maxRecDepth 100000 in
set_option maxHeartbeats 4000000 in
theorem c_X10_errorPosition {Ω : Wd} (l : Launch) (hO : OkW Ω) (hX : LM Ω)  (M : Mem)  : ∀ r, fX10_errorPosition M  = some r → Ct l yX10_errorPosition (.code yX10_errorPosition cX10_errorPosition 1 (some .int)) 0 0 Ω [.ref (wA Ω 0)] M (cvI r) := by
  refine ofG [(0, .ref (wA Ω 0))] hO (by decide) rfl (Nat.le_of_ble_eq_true rfl) rfl ?_
  intro p e s m args below meth c
  unfold fX10_errorPosition
  refine g_aload_n 0 rfl rfl 1 rfl dX10_errorPosition_0 ?_
  refine g_iconst 0 2 rfl dX10_errorPosition_1 (by decide) ?_
  refine w_put (lm_0 hX) rfl in_X10 0 (by decide) wf_X10_47 tyX10 tyX10_ok nmX10 rfl rfl rfl rfl 5 rfl dX10_errorPosition_2 ?_
  intro M1
  refine g_aload_n 0 rfl rfl 6 rfl dX10_errorPosition_5 ?_
  refine w_get (lm_0 hX) rfl in_X10 10 (by decide) wf_X10_25 rfl 9 rfl dX10_errorPosition_6 ?_
  exact g_iret rfl dX10_errorPosition_9
def fX10_writes__B  (fr : Mem → Int32 → Option (Unit × Mem)) (M : Mem) (p0 : Int32) : Option (Unit × Mem) := jn (fun (a1 : Mem) => bnd (mset a1 0 13 ((a1 0 13) + 1)) (fun M3 => grd (nz 10) (grd (inb (a1 0 13) 120) (bnd (mset M3 6 (a1 0 13).toNatClampNeg (48 + (p0 - p0 / 10 * 10))) (fun M4 => some ((), M4)))))) (fun k2 => if p0 ≤ 9 then (k2 M) else (grd (nz 10) (cl (fr M (p0 / 10)) (fun u5 M6 => k2 M6))))
def fX10_writes_  : Nat → Mem → Int32 → Option (Unit × Mem)
  | 0 => fun _ _ => none
  | d + 1 => fX10_writes__B  (fX10_writes_  d)
set_option maxRecDepth 100000 in
set_option maxHeartbeats 4000000 in
theorem c_X10_writes_ {Ω : Wd} (l : Launch) (hO : OkW Ω) (hX : LM Ω)  : ∀ (d : Nat) (M : Mem) (p0 : Int32), ∀ r, fX10_writes_  d M p0 = some r → Ct l yX10_writes_ (.code yX10_writes_ cX10_writes_ 2 none) (0 + d) (0 + 22 * d) Ω [.ref (wA Ω 0), .int p0] M (cvV r)
  | 0, _, _ => fun r hr => by cases hr
  | d + 1, M, p0 => by
    have ih := c_X10_writes_ l hO hX  d
    show ∀ r, fX10_writes__B  (fX10_writes_  d) M p0 = some r → _
    generalize fX10_writes_  d = fr at ih ⊢
    refine ofG [(0, .ref (wA Ω 0)), (1, .int p0)] hO (by decide) rfl (Nat.le_of_ble_eq_true rfl) rfl ?_
    intro p e s m args below meth c
    unfold fX10_writes__B
    refine g_iload_n 1 rfl rfl 1 rfl dX10_writes__0 ?_
    refine g_bipush 9 3 rfl dX10_writes__1 (by decide) ?_
    refine g_join 14 (fun a1 => [(0, .ref (wA Ω 0)), (1, .int p0)]) (fun a1 => []) (fun a1 => a1) ?_ ?_
    · intro a1
      refine g_aload_n 0 rfl rfl 15 rfl dX10_writes__14 ?_
      refine w_getR (lm_0 hX) rfl in_X10 12 (by decide) wf_X10_29 6 rfl 18 rfl dX10_writes__15 ?_
      refine g_aload_n 0 rfl rfl 19 rfl dX10_writes__18 ?_
      refine g_dup 20 rfl dX10_writes__19 rfl ?_
      refine w_get (lm_0 hX) rfl in_X10 13 (by decide) wf_X10_270 rfl 23 rfl dX10_writes__20 ?_
      refine g_dup_x1 24 rfl dX10_writes__23 rfl rfl ?_
      refine g_iconst 1 25 rfl dX10_writes__24 (by decide) ?_
      refine g_iadd 26 rfl dX10_writes__25 ?_
      refine w_put (lm_0 hX) rfl in_X10 13 (by decide) wf_X10_270 tyX10 tyX10_ok nmX10 rfl rfl rfl rfl 29 rfl dX10_writes__26 ?_
      intro M3
      refine g_bipush 48 31 rfl dX10_writes__29 (by decide) ?_
      refine g_iload_n 1 rfl rfl 32 rfl dX10_writes__31 ?_
      refine g_bipush 10 34 rfl dX10_writes__32 (by decide) ?_
      refine g_irem 35 rfl dX10_writes__34 ?_
      refine g_iadd 36 rfl dX10_writes__35 ?_
      refine w_iast (lm_6 hX) 37 rfl dX10_writes__36 ?_
      intro M4
      exact g_vret rfl dX10_writes__37
    · intro k2 hk2
      refine g_icmp_le 14 (by decide) 6 rfl dX10_writes__3 ?_ ?_
      · exact hk2 M
      · refine g_aload_n 0 rfl rfl 7 rfl dX10_writes__6 ?_
        refine g_iload_n 1 rfl rfl 8 rfl dX10_writes__7 ?_
        refine g_bipush 10 10 rfl dX10_writes__8 (by decide) ?_
        refine g_idiv 11 rfl dX10_writes__10 ?_
        refine g_cVV 0 [.int (p0 / 10)] [] (ih M (p0 / 10)) dX10_writes__11 uv_X10_273 rfl yk_X10_writes_ ⟨by omega, by omega⟩ (lm_0 hX).1 (lm_0 hX).2 rfl (Nat.le_of_ble_eq_true rfl) rfl 14 rfl ?_
        intro u5 M6
        exact hk2 M6
def fX10_character (M : Mem) (p0 : Int32) : Option (Int32 × Mem) := clp (fX10_in M p0 0 ((M 0 13) - 1)) (fun x1 => jn (fun (a2 : Int32) => bnd (mset M 0 0 a2) (fun M4 => jn (fun (a5 : Int32) => grd (isc a5) (some (a5, M4))) (fun k6 => if M4 0 0 ≤ 0 then (grd (inb p0 120) (k6 (((M4 6 p0.toNatClampNeg).toUInt32 % 65536).toInt32))) else (k6 0)))) (fun k3 => if x1 = 0 then (k3 1) else (k3 0)))
set_option maxRecDepth 100000 in
set_option maxHeartbeats 4000000 in
theorem c_X10_character {Ω : Wd} (l : Launch) (hO : OkW Ω) (hX : LM Ω)  (M : Mem) (p0 : Int32) : ∀ r, fX10_character M p0 = some r → Ct l yX10_character (.code yX10_character cX10_character 2 (some .char)) 1 22 Ω [.ref (wA Ω 0), .int p0] M (cvI r) := by
  refine ofG [(0, .ref (wA Ω 0)), (1, .int p0)] hO (by decide) rfl (Nat.le_of_ble_eq_true rfl) rfl ?_
  intro p e s m args below meth c
  unfold fX10_character
  refine g_aload_n 0 rfl rfl 1 rfl dX10_character_0 ?_
  refine g_iload_n 1 rfl rfl 2 rfl dX10_character_1 ?_
  refine g_iconst 0 3 rfl dX10_character_2 (by decide) ?_
  refine g_aload_n 0 rfl rfl 4 rfl dX10_character_3 ?_
  refine w_get (lm_0 hX) rfl in_X10 13 (by decide) wf_X10_270 rfl 7 rfl dX10_character_4 ?_
  refine g_iconst 1 8 rfl dX10_character_7 (by decide) ?_
  refine g_isub 9 rfl dX10_character_8 ?_
  refine p_cSI [.int p0, .int 0, .int ((M 0 13) - 1)] [.ref (wA Ω 0)] (c_X10_in l hO M p0 0 ((M 0 13) - 1)) dX10_character_9 us_X10_70 rfl yk_X10_in ⟨by decide, by decide⟩ (Nat.le_of_ble_eq_true rfl) rfl 12 rfl ?_
  intro x1
  refine g_join 20 (fun a2 => [(0, .ref (wA Ω 0)), (1, .int p0)]) (fun a2 => [.int a2, .ref (wA Ω 0)]) (fun a2 => M) ?_ ?_
  · intro a2
    refine w_put (lm_0 hX) rfl in_X10 0 (by decide) wf_X10_47 tyX10 tyX10_ok nmX10 rfl rfl rfl rfl 23 rfl dX10_character_20 ?_
    intro M4
    refine g_aload_n 0 rfl rfl 24 rfl dX10_character_23 ?_
    refine w_get (lm_0 hX) rfl in_X10 0 (by decide) wf_X10_47 rfl 27 rfl dX10_character_24 ?_
    refine g_join 41 (fun a5 => []) (fun a5 => [.int a5]) (fun a5 => M4) ?_ ?_
    · intro a5
      exact g_cret rfl dX10_character_41
    · intro k6 hk6
      refine g_if_le 34 (by decide) 30 rfl dX10_character_27 ?_ ?_
      · refine g_aload_n 0 rfl rfl 35 rfl dX10_character_34 ?_
        refine w_getR (lm_0 hX) rfl in_X10 12 (by decide) wf_X10_29 6 rfl 38 rfl dX10_character_35 ?_
        refine g_iload_n 1 rfl rfl 39 rfl dX10_character_38 ?_
        refine w_iald (lm_6 hX) 40 rfl dX10_character_39 ?_
        refine g_i2c 41 rfl dX10_character_40 ?_
        refine g_sub [] [] rfl ?_
        exact hk6 (((M4 6 p0.toNatClampNeg).toUInt32 % 65536).toInt32)
      · refine g_iconst 0 31 rfl dX10_character_30 (by decide) ?_
        refine g_goto 41 (by decide) dX10_character_31 ?_
        refine g_sub [] [] rfl ?_
        exact hk6 0
  · intro k3 hk3
    refine g_if_eq 19 (by decide) 15 rfl dX10_character_12 ?_ ?_
    · refine g_iconst 1 20 rfl dX10_character_19 (by decide) ?_
      exact hk3 1
    · refine g_iconst 0 16 rfl dX10_character_15 (by decide) ?_
      refine g_goto 20 (by decide) dX10_character_16 ?_
      exact hk3 0
def fX10_undo_L1 (k4 : (Int32 × Mem) → Option (Int32 × Mem)) (a3 : Int32 × Mem) : Option (Int32 × Mem) := if 490 ≤ a3.1 then (some (a3.2 0 3, a3.2)) else (grd (inb ((490 * (a3.2 0 3)) + a3.1) 3920) (grd (inb a3.1 490) (bnd (mset a3.2 1 a3.1.toNatClampNeg (a3.2 2 ((490 * (a3.2 0 3)) + a3.1).toNatClampNeg)) (fun M5 => bnd (a3.1 + 1) (fun x6 => k4 (x6, M5))))))
def fX10_undo (M : Mem)  : Option (Int32 × Mem) := bnd (mset M 0 0 0) (fun M1 => if M1 0 3 = 0 then (cl (fX10_raises M1 1) (fun x7 M8 => some (x7, M8))) else (bnd (mset M1 0 3 ((M1 0 3) - 1)) (fun M2 => lp (fX10_undo_L1) FU (0, M2))))
set_option maxRecDepth 100000 in
set_option maxHeartbeats 4000000 in
theorem c_X10_undo {Ω : Wd} (l : Launch) (hO : OkW Ω) (hX : LM Ω)  (M : Mem)  : ∀ r, fX10_undo M  = some r → Ct l yX10_undo (.code yX10_undo cX10_undo 2 (some .int)) 1 21 Ω [.ref (wA Ω 0)] M (cvI r) := by
  refine ofG [(0, .ref (wA Ω 0))] hO (by decide) rfl (Nat.le_of_ble_eq_true rfl) rfl ?_
  intro p e s m args below meth c
  unfold fX10_undo
  refine g_aload_n 0 rfl rfl 1 rfl dX10_undo_0 ?_
  refine g_iconst 0 2 rfl dX10_undo_1 (by decide) ?_
  refine w_put (lm_0 hX) rfl in_X10 0 (by decide) wf_X10_47 tyX10 tyX10_ok nmX10 rfl rfl rfl rfl 5 rfl dX10_undo_2 ?_
  intro M1
  refine g_aload_n 0 rfl rfl 6 rfl dX10_undo_5 ?_
  refine w_get (lm_0 hX) rfl in_X10 3 (by decide) wf_X10_57 rfl 9 rfl dX10_undo_6 ?_
  refine g_if_ne 18 (by decide) 12 rfl dX10_undo_9 ?_ ?_
  · refine g_aload_n 0 rfl rfl 13 rfl dX10_undo_12 ?_
    refine g_iconst 1 14 rfl dX10_undo_13 (by decide) ?_
    refine g_cVI 0 [.int 1] [] (c_X10_raises l hO hX M1 1) dX10_undo_14 uv_X10_53 rfl yk_X10_raises ⟨by decide, by decide⟩ (lm_0 hX).1 (lm_0 hX).2 rfl (Nat.le_of_ble_eq_true rfl) rfl 17 rfl ?_
    intro x7 M8
    exact g_iret rfl dX10_undo_17
  · refine g_aload_n 0 rfl rfl 19 rfl dX10_undo_18 ?_
    refine g_dup 20 rfl dX10_undo_19 rfl ?_
    refine w_get (lm_0 hX) rfl in_X10 3 (by decide) wf_X10_57 rfl 23 rfl dX10_undo_20 ?_
    refine g_iconst 1 24 rfl dX10_undo_23 (by decide) ?_
    refine g_isub 25 rfl dX10_undo_24 ?_
    refine w_put (lm_0 hX) rfl in_X10 3 (by decide) wf_X10_57 tyX10 tyX10_ok nmX10 rfl rfl rfl rfl 28 rfl dX10_undo_25 ?_
    intro M2
    refine g_iconst 0 29 rfl dX10_undo_28 (by decide) ?_
    refine g_istore_nA [(1, .int 0), (0, .ref (wA Ω 0))] rfl 30 rfl dX10_undo_29 (by decide) rfl ?_
    refine g_sub [(0, .ref (wA Ω 0)), (1, .int 0)] [1, 0] rfl ?_
    refine g_loop 30 (fun a3 => [(0, .ref (wA Ω 0)), (1, .int a3.1)]) (fun _ => []) (fun a3 => a3.2) ?_ FU (0, M2)
    intro k4 hk4 a3
    unfold fX10_undo_L1
    refine g_iload_n 1 rfl rfl 31 rfl dX10_undo_30 ?_
    refine g_sipush 490 34 rfl dX10_undo_31 (by decide) ?_
    refine g_icmp_ge 64 (by decide) 37 rfl dX10_undo_34 ?_ ?_
    · refine g_aload_n 0 rfl rfl 65 rfl dX10_undo_64 ?_
      refine w_get (lm_0 hX) rfl in_X10 3 (by decide) wf_X10_57 rfl 68 rfl dX10_undo_65 ?_
      exact g_iret rfl dX10_undo_68
    · refine g_aload_n 0 rfl rfl 38 rfl dX10_undo_37 ?_
      refine w_getR (lm_0 hX) rfl in_X10 1 (by decide) wf_X10_9 1 rfl 41 rfl dX10_undo_38 ?_
      refine g_iload_n 1 rfl rfl 42 rfl dX10_undo_41 ?_
      refine g_aload_n 0 rfl rfl 43 rfl dX10_undo_42 ?_
      refine w_getR (lm_0 hX) rfl in_X10 2 (by decide) wf_X10_13 2 rfl 46 rfl dX10_undo_43 ?_
      refine g_sipush 490 49 rfl dX10_undo_46 (by decide) ?_
      refine g_aload_n 0 rfl rfl 50 rfl dX10_undo_49 ?_
      refine w_get (lm_0 hX) rfl in_X10 3 (by decide) wf_X10_57 rfl 53 rfl dX10_undo_50 ?_
      refine g_imul 54 rfl dX10_undo_53 ?_
      refine g_iload_n 1 rfl rfl 55 rfl dX10_undo_54 ?_
      refine g_iadd 56 rfl dX10_undo_55 ?_
      refine w_iald (lm_2 hX) 57 rfl dX10_undo_56 ?_
      refine w_iast (lm_1 hX) 58 rfl dX10_undo_57 ?_
      intro M5
      refine g_iinc 1 rfl 1 (by decide) (fun x6 => [(1, .int x6), (0, .ref (wA Ω 0))]) 61 rfl dX10_undo_58 (by decide) (fun _ => rfl) ?_
      intro x6
      refine g_goto 30 (by decide) dX10_undo_61 ?_
      refine g_sub [(0, .ref (wA Ω 0)), (1, .int x6)] [1, 0] rfl ?_
      exact hk4 (x6, M5)
def fX10_save_L1 (k4 : Mem → Option (Int32 × Mem)) (k6 : (Int32 × Mem) → Option (Int32 × Mem)) (a5 : Int32 × Mem) : Option (Int32 × Mem) := if 490 ≤ a5.1 then (k4 a5.2) else (grd (inb a5.1 490) (grd (inb a5.1 490) (bnd (mset a5.2 3 a5.1.toNatClampNeg (a5.2 1 a5.1.toNatClampNeg)) (fun M7 => bnd (a5.1 + 1) (fun x8 => k6 (x8, M7))))))
def fX10_save (M : Mem)  : Option (Int32 × Mem) := bnd (mset M 0 0 0) (fun M1 => bnd (mset M1 0 5 1) (fun M2 => jn (fun (a3 : Mem) => grd (inb 2 490) (some (a3 1 (2 : Int32).toNatClampNeg, a3))) (fun k4 => lp (fX10_save_L1 k4) FU (0, M2))))
set_option maxRecDepth 100000 in
set_option maxHeartbeats 4000000 in
theorem c_X10_save {Ω : Wd} (l : Launch) (hO : OkW Ω) (hX : LM Ω)  (M : Mem)  : ∀ r, fX10_save M  = some r → Ct l yX10_save (.code yX10_save cX10_save 2 (some .int)) 0 0 Ω [.ref (wA Ω 0)] M (cvI r) := by
  refine ofG [(0, .ref (wA Ω 0))] hO (by decide) rfl (Nat.le_of_ble_eq_true rfl) rfl ?_
  intro p e s m args below meth c
  unfold fX10_save
  refine g_aload_n 0 rfl rfl 1 rfl dX10_save_0 ?_
  refine g_iconst 0 2 rfl dX10_save_1 (by decide) ?_
  refine w_put (lm_0 hX) rfl in_X10 0 (by decide) wf_X10_47 tyX10 tyX10_ok nmX10 rfl rfl rfl rfl 5 rfl dX10_save_2 ?_
  intro M1
  refine g_aload_n 0 rfl rfl 6 rfl dX10_save_5 ?_
  refine g_iconst 1 7 rfl dX10_save_6 (by decide) ?_
  refine w_put (lm_0 hX) rfl in_X10 5 (by decide) wf_X10_302 tyX10 tyX10_ok nmX10 rfl rfl rfl rfl 10 rfl dX10_save_7 ?_
  intro M2
  refine g_iconst 0 11 rfl dX10_save_10 (by decide) ?_
  refine g_istore_nA [(1, .int 0), (0, .ref (wA Ω 0))] rfl 12 rfl dX10_save_11 (by decide) rfl ?_
  refine g_join 37 (fun a3 => [(0, .ref (wA Ω 0))]) (fun a3 => []) (fun a3 => a3) ?_ ?_
  · intro a3
    refine g_aload_n 0 rfl rfl 38 rfl dX10_save_37 ?_
    refine w_getR (lm_0 hX) rfl in_X10 1 (by decide) wf_X10_9 1 rfl 41 rfl dX10_save_38 ?_
    refine g_iconst 2 42 rfl dX10_save_41 (by decide) ?_
    refine w_iald (lm_1 hX) 43 rfl dX10_save_42 ?_
    exact g_iret rfl dX10_save_43
  · intro k4 hk4
    refine g_sub [(0, .ref (wA Ω 0)), (1, .int 0)] [1, 0] rfl ?_
    refine g_loop 12 (fun a5 => [(0, .ref (wA Ω 0)), (1, .int a5.1)]) (fun _ => []) (fun a5 => a5.2) ?_ FU (0, M2)
    intro k6 hk6 a5
    unfold fX10_save_L1
    refine g_iload_n 1 rfl rfl 13 rfl dX10_save_12 ?_
    refine g_sipush 490 16 rfl dX10_save_13 (by decide) ?_
    refine g_icmp_ge 37 (by decide) 19 rfl dX10_save_16 ?_ ?_
    · refine g_sub [(0, .ref (wA Ω 0))] [0] rfl ?_
      exact hk4 a5.2
    · refine g_aload_n 0 rfl rfl 20 rfl dX10_save_19 ?_
      refine w_getR (lm_0 hX) rfl in_X10 4 (by decide) wf_X10_16 3 rfl 23 rfl dX10_save_20 ?_
      refine g_iload_n 1 rfl rfl 24 rfl dX10_save_23 ?_
      refine g_aload_n 0 rfl rfl 25 rfl dX10_save_24 ?_
      refine w_getR (lm_0 hX) rfl in_X10 1 (by decide) wf_X10_9 1 rfl 28 rfl dX10_save_25 ?_
      refine g_iload_n 1 rfl rfl 29 rfl dX10_save_28 ?_
      refine w_iald (lm_1 hX) 30 rfl dX10_save_29 ?_
      refine w_iast (lm_3 hX) 31 rfl dX10_save_30 ?_
      intro M7
      refine g_iinc 1 rfl 1 (by decide) (fun x8 => [(1, .int x8), (0, .ref (wA Ω 0))]) 34 rfl dX10_save_31 (by decide) (fun _ => rfl) ?_
      intro x8
      refine g_goto 12 (by decide) dX10_save_34 ?_
      refine g_sub [(0, .ref (wA Ω 0)), (1, .int x8)] [1, 0] rfl ?_
      exact hk6 (x8, M7)
def fX10_restore_L1 (k3 : Mem → Option (Int32 × Mem)) (k6 : (Int32 × Mem) → Option (Int32 × Mem)) (a5 : Int32 × Mem) : Option (Int32 × Mem) := if 490 ≤ a5.1 then (k3 a5.2) else (grd (inb a5.1 490) (grd (inb a5.1 490) (bnd (mset a5.2 1 a5.1.toNatClampNeg (a5.2 3 a5.1.toNatClampNeg)) (fun M7 => bnd (a5.1 + 1) (fun x8 => k6 (x8, M7))))))
def fX10_restore (M : Mem)  : Option (Int32 × Mem) := bnd (mset M 0 0 0) (fun M1 => if M1 0 5 = 0 then (cl (fX10_raises M1 1) (fun x9 M10 => some (x9, M10))) else (jn (fun (a2 : Mem) => bnd (mset a2 0 3 0) (fun M4 => grd (inb 2 490) (some (M4 1 (2 : Int32).toNatClampNeg, M4)))) (fun k3 => lp (fX10_restore_L1 k3) FU (0, M1))))
set_option maxRecDepth 100000 in
set_option maxHeartbeats 4000000 in
theorem c_X10_restore {Ω : Wd} (l : Launch) (hO : OkW Ω) (hX : LM Ω)  (M : Mem)  : ∀ r, fX10_restore M  = some r → Ct l yX10_restore (.code yX10_restore cX10_restore 2 (some .int)) 1 21 Ω [.ref (wA Ω 0)] M (cvI r) := by
  refine ofG [(0, .ref (wA Ω 0))] hO (by decide) rfl (Nat.le_of_ble_eq_true rfl) rfl ?_
  intro p e s m args below meth c
  unfold fX10_restore
  refine g_aload_n 0 rfl rfl 1 rfl dX10_restore_0 ?_
  refine g_iconst 0 2 rfl dX10_restore_1 (by decide) ?_
  refine w_put (lm_0 hX) rfl in_X10 0 (by decide) wf_X10_47 tyX10 tyX10_ok nmX10 rfl rfl rfl rfl 5 rfl dX10_restore_2 ?_
  intro M1
  refine g_aload_n 0 rfl rfl 6 rfl dX10_restore_5 ?_
  refine w_get (lm_0 hX) rfl in_X10 5 (by decide) wf_X10_302 rfl 9 rfl dX10_restore_6 ?_
  refine g_if_ne 18 (by decide) 12 rfl dX10_restore_9 ?_ ?_
  · refine g_aload_n 0 rfl rfl 13 rfl dX10_restore_12 ?_
    refine g_iconst 1 14 rfl dX10_restore_13 (by decide) ?_
    refine g_cVI 0 [.int 1] [] (c_X10_raises l hO hX M1 1) dX10_restore_14 uv_X10_53 rfl yk_X10_raises ⟨by decide, by decide⟩ (lm_0 hX).1 (lm_0 hX).2 rfl (Nat.le_of_ble_eq_true rfl) rfl 17 rfl ?_
    intro x9 M10
    exact g_iret rfl dX10_restore_17
  · refine g_iconst 0 19 rfl dX10_restore_18 (by decide) ?_
    refine g_istore_nA [(1, .int 0), (0, .ref (wA Ω 0))] rfl 20 rfl dX10_restore_19 (by decide) rfl ?_
    refine g_join 45 (fun a2 => [(0, .ref (wA Ω 0))]) (fun a2 => []) (fun a2 => a2) ?_ ?_
    · intro a2
      refine g_aload_n 0 rfl rfl 46 rfl dX10_restore_45 ?_
      refine g_iconst 0 47 rfl dX10_restore_46 (by decide) ?_
      refine w_put (lm_0 hX) rfl in_X10 3 (by decide) wf_X10_57 tyX10 tyX10_ok nmX10 rfl rfl rfl rfl 50 rfl dX10_restore_47 ?_
      intro M4
      refine g_aload_n 0 rfl rfl 51 rfl dX10_restore_50 ?_
      refine w_getR (lm_0 hX) rfl in_X10 1 (by decide) wf_X10_9 1 rfl 54 rfl dX10_restore_51 ?_
      refine g_iconst 2 55 rfl dX10_restore_54 (by decide) ?_
      refine w_iald (lm_1 hX) 56 rfl dX10_restore_55 ?_
      exact g_iret rfl dX10_restore_56
    · intro k3 hk3
      refine g_sub [(0, .ref (wA Ω 0)), (1, .int 0)] [1, 0] rfl ?_
      refine g_loop 20 (fun a5 => [(0, .ref (wA Ω 0)), (1, .int a5.1)]) (fun _ => []) (fun a5 => a5.2) ?_ FU (0, M1)
      intro k6 hk6 a5
      unfold fX10_restore_L1
      refine g_iload_n 1 rfl rfl 21 rfl dX10_restore_20 ?_
      refine g_sipush 490 24 rfl dX10_restore_21 (by decide) ?_
      refine g_icmp_ge 45 (by decide) 27 rfl dX10_restore_24 ?_ ?_
      · refine g_sub [(0, .ref (wA Ω 0))] [0] rfl ?_
        exact hk3 a5.2
      · refine g_aload_n 0 rfl rfl 28 rfl dX10_restore_27 ?_
        refine w_getR (lm_0 hX) rfl in_X10 1 (by decide) wf_X10_9 1 rfl 31 rfl dX10_restore_28 ?_
        refine g_iload_n 1 rfl rfl 32 rfl dX10_restore_31 ?_
        refine g_aload_n 0 rfl rfl 33 rfl dX10_restore_32 ?_
        refine w_getR (lm_0 hX) rfl in_X10 4 (by decide) wf_X10_16 3 rfl 36 rfl dX10_restore_33 ?_
        refine g_iload_n 1 rfl rfl 37 rfl dX10_restore_36 ?_
        refine w_iald (lm_3 hX) 38 rfl dX10_restore_37 ?_
        refine w_iast (lm_1 hX) 39 rfl dX10_restore_38 ?_
        intro M7
        refine g_iinc 1 rfl 1 (by decide) (fun x8 => [(1, .int x8), (0, .ref (wA Ω 0))]) 42 rfl dX10_restore_39 (by decide) (fun _ => rfl) ?_
        intro x8
        refine g_goto 20 (by decide) dX10_restore_42 ?_
        refine g_sub [(0, .ref (wA Ω 0)), (1, .int x8)] [1, 0] rfl ?_
        exact hk6 (x8, M7)
def fX10_mod (M : Mem) (p0 : Int32) : Option Int32 := grd (inb 0 490) (clp (fJ9_floorMod_7cf53 M p0 (M 1 (0 : Int32).toNatClampNeg)) (fun x1 => some x1))
set_option maxRecDepth 100000 in
set_option maxHeartbeats 4000000 in
theorem c_X10_mod {Ω : Wd} (l : Launch) (hO : OkW Ω) (hX : LM Ω)  (M : Mem) (p0 : Int32) : ∀ r, fX10_mod M p0 = some r → Ct l yX10_mod (.code yX10_mod cX10_mod 2 (some .int)) 1 22 Ω [.ref (wA Ω 0), .int p0] M ((cpI M) r) := by
  refine ofG [(0, .ref (wA Ω 0)), (1, .int p0)] hO (by decide) rfl (Nat.le_of_ble_eq_true rfl) rfl ?_
  intro p e s m args below meth c
  unfold fX10_mod
  refine g_iload_n 1 rfl rfl 1 rfl dX10_mod_0 ?_
  refine g_aload_n 0 rfl rfl 2 rfl dX10_mod_1 ?_
  refine w_getR (lm_0 hX) rfl in_X10 1 (by decide) wf_X10_9 1 rfl 5 rfl dX10_mod_2 ?_
  refine g_iconst 0 6 rfl dX10_mod_5 (by decide) ?_
  refine w_iald (lm_1 hX) 7 rfl dX10_mod_6 ?_
  refine p_cTI [.int p0, .int (M 1 (0 : Int32).toNatClampNeg)] [] (c_J9_floorMod_7cf53 l hO M p0 (M 1 (0 : Int32).toNatClampNeg)) dX10_mod_7 ut_X10_81 yk_J9_floorMod_7cf53 ⟨by decide, by decide⟩ (Nat.le_of_ble_eq_true rfl) rfl 10 rfl ?_
  intro x1
  exact p_iret rfl dX10_mod_10
def fX10_local (M : Mem) (p0 : Int32) (p1 : Int32) : Option Int32 := clp (fX10_of M p0 1) (fun x1 => clp (fX10_mod M (p1 - x1)) (fun x2 => some x2))
set_option maxRecDepth 100000 in
set_option maxHeartbeats 4000000 in
theorem c_X10_local {Ω : Wd} (l : Launch) (hO : OkW Ω) (hX : LM Ω)  (M : Mem) (p0 : Int32) (p1 : Int32) : ∀ r, fX10_local M p0 p1 = some r → Ct l yX10_local (.code yX10_local cX10_local 3 (some .int)) 2 43 Ω [.ref (wA Ω 0), .int p0, .int p1] M ((cpI M) r) := by
  refine ofG [(0, .ref (wA Ω 0)), (1, .int p0), (2, .int p1)] hO (by decide) rfl (Nat.le_of_ble_eq_true rfl) rfl ?_
  intro p e s m args below meth c
  unfold fX10_local
  refine g_aload_n 0 rfl rfl 1 rfl dX10_local_0 ?_
  refine g_iload_n 2 rfl rfl 2 rfl dX10_local_1 ?_
  refine g_aload_n 0 rfl rfl 3 rfl dX10_local_2 ?_
  refine g_iload_n 1 rfl rfl 4 rfl dX10_local_3 ?_
  refine g_iconst 1 5 rfl dX10_local_4 (by decide) ?_
  refine p_cVI 0 [.int p0, .int 1] [.int p1, .ref (wA Ω 0)] (c_X10_of l hO hX M p0 1) dX10_local_5 uv_X10_78 rfl yk_X10_of ⟨by decide, by decide⟩ (lm_0 hX).1 (lm_0 hX).2 rfl (Nat.le_of_ble_eq_true rfl) rfl 8 rfl ?_
  intro x1
  refine g_isub 9 rfl dX10_local_8 ?_
  refine p_cVI 0 [.int (p1 - x1)] [] (c_X10_mod l hO hX M (p1 - x1)) dX10_local_9 uv_X10_86 rfl yk_X10_mod ⟨by decide, by decide⟩ (lm_0 hX).1 (lm_0 hX).2 rfl (Nat.le_of_ble_eq_true rfl) rfl 12 rfl ?_
  intro x2
  exact p_iret rfl dX10_local_12
def fX10_isOn (M : Mem) (p0 : Int32) (p1 : Int32) (p2 : Int32) (p3 : Int32) : Option Int32 := clp (fX10_first M p0 p1 p2) (fun x1 => clp (fX10_mod M (p3 - x1)) (fun x2 => clp (fX10_length M p0 p1 p2) (fun x3 => jn (fun (a4 : Int32) => grd (isb a4) (some a4)) (fun k5 => if x3 ≤ x2 then (k5 0) else (k5 1)))))
set_option maxRecDepth 100000 in
set_option maxHeartbeats 4000000 in
theorem c_X10_isOn {Ω : Wd} (l : Launch) (hO : OkW Ω) (hX : LM Ω)  (M : Mem) (p0 : Int32) (p1 : Int32) (p2 : Int32) (p3 : Int32) : ∀ r, fX10_isOn M p0 p1 p2 p3 = some r → Ct l yX10_isOn (.code yX10_isOn cX10_isOn 5 (some .boolean)) 3 67 Ω [.ref (wA Ω 0), .int p0, .int p1, .int p2, .int p3] M ((cpI M) r) := by
  refine ofG [(0, .ref (wA Ω 0)), (1, .int p0), (2, .int p1), (3, .int p2), (4, .int p3)] hO (by decide) rfl (Nat.le_of_ble_eq_true rfl) rfl ?_
  intro p e s m args below meth c
  unfold fX10_isOn
  refine g_aload_n 0 rfl rfl 1 rfl dX10_isOn_0 ?_
  refine g_iload 4 rfl 3 rfl dX10_isOn_1 ?_
  refine g_aload_n 0 rfl rfl 4 rfl dX10_isOn_3 ?_
  refine g_iload_n 1 rfl rfl 5 rfl dX10_isOn_4 ?_
  refine g_iload_n 2 rfl rfl 6 rfl dX10_isOn_5 ?_
  refine g_iload_n 3 rfl rfl 7 rfl dX10_isOn_6 ?_
  refine p_cVI 0 [.int p0, .int p1, .int p2] [.int p3, .ref (wA Ω 0)] (c_X10_first l hO hX M p0 p1 p2) dX10_isOn_7 uv_X10_93 rfl yk_X10_first ⟨by decide, by decide⟩ (lm_0 hX).1 (lm_0 hX).2 rfl (Nat.le_of_ble_eq_true rfl) rfl 10 rfl ?_
  intro x1
  refine g_isub 11 rfl dX10_isOn_10 ?_
  refine p_cVI 0 [.int (p3 - x1)] [] (c_X10_mod l hO hX M (p3 - x1)) dX10_isOn_11 uv_X10_86 rfl yk_X10_mod ⟨by decide, by decide⟩ (lm_0 hX).1 (lm_0 hX).2 rfl (Nat.le_of_ble_eq_true rfl) rfl 14 rfl ?_
  intro x2
  refine g_aload_n 0 rfl rfl 15 rfl dX10_isOn_14 ?_
  refine g_iload_n 1 rfl rfl 16 rfl dX10_isOn_15 ?_
  refine g_iload_n 2 rfl rfl 17 rfl dX10_isOn_16 ?_
  refine g_iload_n 3 rfl rfl 18 rfl dX10_isOn_17 ?_
  refine p_cVI 0 [.int p0, .int p1, .int p2] [.int x2] (c_X10_length l hO hX M p0 p1 p2) dX10_isOn_18 uv_X10_96 rfl yk_X10_length ⟨by decide, by decide⟩ (lm_0 hX).1 (lm_0 hX).2 rfl (Nat.le_of_ble_eq_true rfl) rfl 21 rfl ?_
  intro x3
  refine g_join 29 (fun a4 => []) (fun a4 => [.int a4]) (fun a4 => M) ?_ ?_
  · intro a4
    exact p_bret rfl dX10_isOn_29
  · intro k5 hk5
    refine g_icmp_ge 28 (by decide) 24 rfl dX10_isOn_21 ?_ ?_
    · refine g_iconst 0 29 rfl dX10_isOn_28 (by decide) ?_
      refine g_sub [] [] rfl ?_
      exact hk5 0
    · refine g_iconst 1 25 rfl dX10_isOn_24 (by decide) ?_
      refine g_goto 29 (by decide) dX10_isOn_25 ?_
      refine g_sub [] [] rfl ?_
      exact hk5 1
def fX10_lights_L1 (p0 : Int32) (M : Mem) (a2 : Int32) (a4 : Int32) (x6 : Int32) (k8 : (Int32 × Int32) → Option Int32) (a7 : Int32 × Int32) : Option Int32 := clp (fX10_of M p0 2) (fun x9 => if x9 ≤ a7.2 then (some a7.1) else (clp (fX10_isOn M p0 a4 a7.2 x6) (fun x10 => jn (fun (a11 : Int32) => bnd (a7.2 + 1) (fun x13 => k8 (a11, x13))) (fun k12 => if x10 = 0 then (k12 a7.1) else (clp (fX10_groupOf M p0 a7.2 2) (fun x14 => jn (fun (a15 : Int32) => jn (fun (a17 : Int32) => if a17 = 0 then (k12 a7.1) else (bnd (a7.1 ||| (1 <<< (a7.2 &&& 31))) (fun x19 => k12 x19))) (fun k18 => if a15 = 0 then (clp (fX10_first M p0 a4 a7.2) (fun x20 => jn (fun (a21 : Int32) => k18 a21) (fun k22 => if x6 = x20 then (clp (fX10_groupOf M p0 a7.2 4) (fun x26 => if x26 < 0 then (k22 0) else (k22 1))) else (jn (fun (a23 : Unit) => k22 0) (fun k24 => if a2 = 0 then (clp (fX10_groupOf M p0 a7.2 5) (fun x25 => if x25 = 1 then (k22 1) else (k24 ()))) else (k24 ())))))) else (k18 a15))) (fun k16 => if x14 = 0 then (k16 1) else (k16 0))))))))
def fX10_lights (M : Mem) (p0 : Int32) : Option Int32 := clp (fX10_of M p0 4) (fun x1 => grd (inb 3 490) (jn (fun (a2 : Int32) => jn (fun (a4 : Int32) => grd (inb 3 490) (clp (fX10_local M p0 (M 1 (3 : Int32).toNatClampNeg)) (fun x6 => lp (fX10_lights_L1 p0 M a2 a4 x6) FU (0, 0)))) (fun k5 => if a2 = 0 then (clp (fX10_of M p0 3) (fun x27 => k5 x27)) else (clp (fX10_of M p0 3) (fun x28 => k5 (1 - x28))))) (fun k3 => if x1 = M 1 (3 : Int32).toNatClampNeg then (k3 1) else (k3 0))))
set_option maxRecDepth 100000 in
set_option maxHeartbeats 4000000 in
theorem c_X10_lights {Ω : Wd} (l : Launch) (hO : OkW Ω) (hX : LM Ω)  (M : Mem) (p0 : Int32) : ∀ r, fX10_lights M p0 = some r → Ct l yX10_lights (.code yX10_lights cX10_lights 8 (some .int)) 4 91 Ω [.ref (wA Ω 0), .int p0] M ((cpI M) r) := by
  refine ofG [(0, .ref (wA Ω 0)), (1, .int p0)] hO (by decide) rfl (Nat.le_of_ble_eq_true rfl) rfl ?_
  intro p e s m args below meth c
  unfold fX10_lights
  refine g_aload_n 0 rfl rfl 1 rfl dX10_lights_0 ?_
  refine g_iload_n 1 rfl rfl 2 rfl dX10_lights_1 ?_
  refine g_iconst 4 3 rfl dX10_lights_2 (by decide) ?_
  refine p_cVI 0 [.int p0, .int 4] [] (c_X10_of l hO hX M p0 4) dX10_lights_3 uv_X10_78 rfl yk_X10_of ⟨by decide, by decide⟩ (lm_0 hX).1 (lm_0 hX).2 rfl (Nat.le_of_ble_eq_true rfl) rfl 6 rfl ?_
  intro x1
  refine g_aload_n 0 rfl rfl 7 rfl dX10_lights_6 ?_
  refine w_getR (lm_0 hX) rfl in_X10 1 (by decide) wf_X10_9 1 rfl 10 rfl dX10_lights_7 ?_
  refine g_iconst 3 11 rfl dX10_lights_10 (by decide) ?_
  refine w_iald (lm_1 hX) 12 rfl dX10_lights_11 ?_
  refine g_join 20 (fun a2 => [(0, .ref (wA Ω 0)), (1, .int p0)]) (fun a2 => [.int a2]) (fun a2 => M) ?_ ?_
  · intro a2
    refine g_istore_nA [(2, .int a2), (0, .ref (wA Ω 0)), (1, .int p0)] rfl 21 rfl dX10_lights_20 (by decide) rfl ?_
    refine g_iload_n 0 rfl rfl 22 rfl dX10_lights_21 ?_
    refine g_join 42 (fun a4 => [(0, .ref (wA Ω 0)), (1, .int p0), (2, .int a2)]) (fun a4 => [.int a4]) (fun a4 => M) ?_ ?_
    · intro a4
      refine g_istore_nA [(3, .int a4), (0, .ref (wA Ω 0)), (1, .int p0), (2, .int a2)] rfl 43 rfl dX10_lights_42 (by decide) rfl ?_
      refine g_aload_n 1 rfl rfl 44 rfl dX10_lights_43 ?_
      refine g_iload_n 2 rfl rfl 45 rfl dX10_lights_44 ?_
      refine g_aload_n 1 rfl rfl 46 rfl dX10_lights_45 ?_
      refine w_getR (lm_0 hX) rfl in_X10 1 (by decide) wf_X10_9 1 rfl 49 rfl dX10_lights_46 ?_
      refine g_iconst 3 50 rfl dX10_lights_49 (by decide) ?_
      refine w_iald (lm_1 hX) 51 rfl dX10_lights_50 ?_
      refine p_cVI 0 [.int p0, .int (M 1 (3 : Int32).toNatClampNeg)] [] (c_X10_local l hO hX M p0 (M 1 (3 : Int32).toNatClampNeg)) dX10_lights_51 uv_X10_124 rfl yk_X10_local ⟨by decide, by decide⟩ (lm_0 hX).1 (lm_0 hX).2 rfl (Nat.le_of_ble_eq_true rfl) rfl 54 rfl ?_
      intro x6
      refine g_istoreA [(4, .int x6), (3, .int a4), (0, .ref (wA Ω 0)), (1, .int p0), (2, .int a2)] 56 rfl dX10_lights_54 (by decide) rfl ?_
      refine g_iconst 0 57 rfl dX10_lights_56 (by decide) ?_
      refine g_istoreA [(5, .int 0), (4, .int x6), (3, .int a4), (0, .ref (wA Ω 0)), (1, .int p0), (2, .int a2)] 59 rfl dX10_lights_57 (by decide) rfl ?_
      refine g_iconst 0 60 rfl dX10_lights_59 (by decide) ?_
      refine g_istoreA [(6, .int 0), (5, .int 0), (4, .int x6), (3, .int a4), (0, .ref (wA Ω 0)), (1, .int p0), (2, .int a2)] 62 rfl dX10_lights_60 (by decide) rfl ?_
      refine g_sub [(0, .ref (wA Ω 0)), (1, .int p0), (2, .int a2), (3, .int a4), (4, .int x6), (5, .int 0), (6, .int 0)] [4, 5, 6, 3, 2, 1, 0] rfl ?_
      refine g_loop 62 (fun a7 => [(0, .ref (wA Ω 0)), (1, .int p0), (2, .int a2), (3, .int a4), (4, .int x6), (5, .int a7.1), (6, .int a7.2)]) (fun _ => []) (fun a7 => M) ?_ FU (0, 0)
      intro k8 hk8 a7
      unfold fX10_lights_L1
      refine g_iload 6 rfl 64 rfl dX10_lights_62 ?_
      refine g_aload_n 0 rfl rfl 65 rfl dX10_lights_64 ?_
      refine g_iload_n 1 rfl rfl 66 rfl dX10_lights_65 ?_
      refine g_iconst 2 67 rfl dX10_lights_66 (by decide) ?_
      refine p_cVI 0 [.int p0, .int 2] [.int a7.2] (c_X10_of l hO hX M p0 2) dX10_lights_67 uv_X10_78 rfl yk_X10_of ⟨by decide, by decide⟩ (lm_0 hX).1 (lm_0 hX).2 rfl (Nat.le_of_ble_eq_true rfl) rfl 70 rfl ?_
      intro x9
      refine g_icmp_ge 187 (by decide) 73 rfl dX10_lights_70 ?_ ?_
      · refine g_iload 5 rfl 189 rfl dX10_lights_187 ?_
        exact p_iret rfl dX10_lights_189
      · refine g_aload_n 0 rfl rfl 74 rfl dX10_lights_73 ?_
        refine g_iload_n 1 rfl rfl 75 rfl dX10_lights_74 ?_
        refine g_iload_n 3 rfl rfl 76 rfl dX10_lights_75 ?_
        refine g_iload 6 rfl 78 rfl dX10_lights_76 ?_
        refine g_iload 4 rfl 80 rfl dX10_lights_78 ?_
        refine p_cVI 0 [.int p0, .int a4, .int a7.2, .int x6] [] (c_X10_isOn l hO hX M p0 a4 a7.2 x6) dX10_lights_80 uv_X10_133 rfl yk_X10_isOn ⟨by decide, by decide⟩ (lm_0 hX).1 (lm_0 hX).2 rfl (Nat.le_of_ble_eq_true rfl) rfl 83 rfl ?_
        intro x10
        refine g_join 181 (fun a11 => [(0, .ref (wA Ω 0)), (1, .int p0), (2, .int a2), (3, .int a4), (4, .int x6), (5, .int a11), (6, .int a7.2)]) (fun a11 => []) (fun a11 => M) ?_ ?_
        · intro a11
          refine g_iinc 6 rfl 1 (by decide) (fun x13 => [(6, .int x13), (0, .ref (wA Ω 0)), (1, .int p0), (2, .int a2), (3, .int a4), (4, .int x6), (5, .int a11)]) 184 rfl dX10_lights_181 (by decide) (fun _ => rfl) ?_
          intro x13
          refine g_goto 62 (by decide) dX10_lights_184 ?_
          refine g_sub [(0, .ref (wA Ω 0)), (1, .int p0), (2, .int a2), (3, .int a4), (4, .int x6), (5, .int a11), (6, .int x13)] [1, 2, 3, 4, 5, 6, 0] rfl ?_
          exact hk8 (a11, x13)
        · intro k12 hk12
          refine g_if_ne 89 (by decide) 86 rfl dX10_lights_83 ?_ ?_
          · refine g_goto 181 (by decide) dX10_lights_86 ?_
            exact hk12 a7.1
          · refine g_aload_n 0 rfl rfl 90 rfl dX10_lights_89 ?_
            refine g_iload_n 1 rfl rfl 91 rfl dX10_lights_90 ?_
            refine g_iload 6 rfl 93 rfl dX10_lights_91 ?_
            refine g_iconst 2 94 rfl dX10_lights_93 (by decide) ?_
            refine p_cVI 0 [.int p0, .int a7.2, .int 2] [] (c_X10_groupOf l hO hX M p0 a7.2 2) dX10_lights_94 uv_X10_89 rfl yk_X10_groupOf ⟨by decide, by decide⟩ (lm_0 hX).1 (lm_0 hX).2 rfl (Nat.le_of_ble_eq_true rfl) rfl 97 rfl ?_
            intro x14
            refine g_join 105 (fun a15 => [(0, .ref (wA Ω 0)), (1, .int p0), (2, .int a2), (3, .int a4), (4, .int x6), (5, .int a7.1), (6, .int a7.2)]) (fun a15 => [.int a15]) (fun a15 => M) ?_ ?_
            · intro a15
              refine g_istoreA [(7, .int a15), (0, .ref (wA Ω 0)), (1, .int p0), (2, .int a2), (3, .int a4), (4, .int x6), (5, .int a7.1), (6, .int a7.2)] 107 rfl dX10_lights_105 (by decide) rfl ?_
              refine g_iload 0 rfl 109 rfl dX10_lights_107 ?_
              refine g_join 167 (fun a17 => [(0, .ref (wA Ω 0)), (1, .int p0), (2, .int a2), (3, .int a4), (4, .int x6), (5, .int a7.1), (6, .int a7.2), (7, .int a17)]) (fun a17 => []) (fun a17 => M) ?_ ?_
              · intro a17
                refine g_iload 7 rfl 169 rfl dX10_lights_167 ?_
                refine g_if_eq 181 (by decide) 172 rfl dX10_lights_169 ?_ ?_
                · refine g_sub [(0, .ref (wA Ω 0)), (1, .int p0), (2, .int a2), (3, .int a4), (4, .int x6), (5, .int a7.1), (6, .int a7.2)] [0, 1, 2, 3, 4, 5, 6] rfl ?_
                  exact hk12 a7.1
                · refine g_iload 5 rfl 174 rfl dX10_lights_172 ?_
                  refine g_iconst 1 175 rfl dX10_lights_174 (by decide) ?_
                  refine g_iload 6 rfl 177 rfl dX10_lights_175 ?_
                  refine g_ishl 178 rfl dX10_lights_177 ?_
                  refine g_ior 179 rfl dX10_lights_178 ?_
                  refine g_istore (fun x19 => [(5, .int x19), (0, .ref (wA Ω 0)), (1, .int p0), (2, .int a2), (3, .int a4), (4, .int x6), (6, .int a7.2), (7, .int a17)]) 181 rfl dX10_lights_179 (by decide) (fun _ => rfl) ?_
                  intro x19
                  refine g_sub [(0, .ref (wA Ω 0)), (1, .int p0), (2, .int a2), (3, .int a4), (4, .int x6), (5, .int x19), (6, .int a7.2)] [1, 2, 3, 4, 5, 0, 6] rfl ?_
                  exact hk12 x19
              · intro k18 hk18
                refine g_if_ne 167 (by decide) 112 rfl dX10_lights_109 ?_ ?_
                · refine g_iload 5 rfl 114 rfl dX10_lights_112 ?_
                  refine g_aload_n 1 rfl rfl 115 rfl dX10_lights_114 ?_
                  refine g_iload_n 2 rfl rfl 116 rfl dX10_lights_115 ?_
                  refine g_iload_n 4 rfl rfl 117 rfl dX10_lights_116 ?_
                  refine g_iload 7 rfl 119 rfl dX10_lights_117 ?_
                  refine p_cVI 0 [.int p0, .int a4, .int a7.2] [.int x6] (c_X10_first l hO hX M p0 a4 a7.2) dX10_lights_119 uv_X10_93 rfl yk_X10_first ⟨by decide, by decide⟩ (lm_0 hX).1 (lm_0 hX).2 rfl (Nat.le_of_ble_eq_true rfl) rfl 122 rfl ?_
                  intro x20
                  refine g_join 165 (fun a21 => [(0, .ref (wA Ω 0)), (1, .int p0), (2, .int a2), (3, .int a4), (4, .int x6), (5, .int a7.1), (6, .int a7.2)]) (fun a21 => [.int a21]) (fun a21 => M) ?_ ?_
                  · intro a21
                    refine g_istoreA [(7, .int a21), (0, .ref (wA Ω 0)), (1, .int p0), (2, .int a2), (3, .int a4), (4, .int x6), (5, .int a7.1), (6, .int a7.2)] 167 rfl dX10_lights_165 (by decide) rfl ?_
                    refine g_sub [(0, .ref (wA Ω 0)), (1, .int p0), (2, .int a2), (3, .int a4), (4, .int x6), (5, .int a7.1), (6, .int a7.2), (7, .int a21)] [1, 2, 3, 4, 5, 6, 7, 0] rfl ?_
                    exact hk18 a21
                  · intro k22 hk22
                    refine g_icmp_ne 144 (by decide) 125 rfl dX10_lights_122 ?_ ?_
                    · refine g_aload_n 1 rfl rfl 126 rfl dX10_lights_125 ?_
                      refine g_iload_n 2 rfl rfl 127 rfl dX10_lights_126 ?_
                      refine g_iload 7 rfl 129 rfl dX10_lights_127 ?_
                      refine g_iconst 4 130 rfl dX10_lights_129 (by decide) ?_
                      refine p_cVI 0 [.int p0, .int a7.2, .int 4] [] (c_X10_groupOf l hO hX M p0 a7.2 4) dX10_lights_130 uv_X10_89 rfl yk_X10_groupOf ⟨by decide, by decide⟩ (lm_0 hX).1 (lm_0 hX).2 rfl (Nat.le_of_ble_eq_true rfl) rfl 133 rfl ?_
                      intro x26
                      refine g_if_lt 140 (by decide) 136 rfl dX10_lights_133 ?_ ?_
                      · refine g_iconst 0 141 rfl dX10_lights_140 (by decide) ?_
                        refine g_goto 165 (by decide) dX10_lights_141 ?_
                        refine g_sub [(0, .ref (wA Ω 0)), (1, .int p0), (2, .int a2), (3, .int a4), (4, .int x6), (5, .int a7.1), (6, .int a7.2)] [1, 2, 3, 4, 5, 6, 7] rfl ?_
                        exact hk22 0
                      · refine g_iconst 1 137 rfl dX10_lights_136 (by decide) ?_
                        refine g_goto 165 (by decide) dX10_lights_137 ?_
                        refine g_sub [(0, .ref (wA Ω 0)), (1, .int p0), (2, .int a2), (3, .int a4), (4, .int x6), (5, .int a7.1), (6, .int a7.2)] [1, 2, 3, 4, 5, 6, 7] rfl ?_
                        exact hk22 1
                    · refine g_iload_n 3 rfl rfl 145 rfl dX10_lights_144 ?_
                      refine g_join 164 (fun a23 => [(0, .ref (wA Ω 0)), (1, .int p0), (2, .int a2), (3, .int a4), (4, .int x6), (5, .int a7.1), (6, .int a7.2)]) (fun a23 => []) (fun a23 => M) ?_ ?_
                      · intro a23
                        refine g_iconst 0 165 rfl dX10_lights_164 (by decide) ?_
                        exact hk22 0
                      · intro k24 hk24
                        refine g_if_ne 164 (by decide) 148 rfl dX10_lights_145 ?_ ?_
                        · refine g_aload_n 1 rfl rfl 149 rfl dX10_lights_148 ?_
                          refine g_iload_n 2 rfl rfl 150 rfl dX10_lights_149 ?_
                          refine g_iload 7 rfl 152 rfl dX10_lights_150 ?_
                          refine g_iconst 5 153 rfl dX10_lights_152 (by decide) ?_
                          refine p_cVI 0 [.int p0, .int a7.2, .int 5] [] (c_X10_groupOf l hO hX M p0 a7.2 5) dX10_lights_153 uv_X10_89 rfl yk_X10_groupOf ⟨by decide, by decide⟩ (lm_0 hX).1 (lm_0 hX).2 rfl (Nat.le_of_ble_eq_true rfl) rfl 156 rfl ?_
                          intro x25
                          refine g_iconst 1 157 rfl dX10_lights_156 (by decide) ?_
                          refine g_icmp_ne 164 (by decide) 160 rfl dX10_lights_157 ?_ ?_
                          · refine g_iconst 1 161 rfl dX10_lights_160 (by decide) ?_
                            refine g_goto 165 (by decide) dX10_lights_161 ?_
                            refine g_sub [(0, .ref (wA Ω 0)), (1, .int p0), (2, .int a2), (3, .int a4), (4, .int x6), (5, .int a7.1), (6, .int a7.2)] [1, 2, 3, 4, 5, 6, 7] rfl ?_
                            exact hk22 1
                          · refine g_sub [(0, .ref (wA Ω 0)), (1, .int p0), (2, .int a2), (3, .int a4), (4, .int x6), (5, .int a7.1), (6, .int a7.2)] [1, 2, 3, 4, 5, 6, 7] rfl ?_
                            exact hk24 ()
                        · refine g_sub [(0, .ref (wA Ω 0)), (1, .int p0), (2, .int a2), (3, .int a4), (4, .int x6), (5, .int a7.1), (6, .int a7.2)] [1, 2, 3, 4, 5, 6, 7] rfl ?_
                          exact hk24 ()
                · refine g_sub [(0, .ref (wA Ω 0)), (1, .int p0), (2, .int a2), (3, .int a4), (4, .int x6), (5, .int a7.1), (6, .int a7.2), (7, .int a15)] [1, 2, 3, 4, 5, 6, 7, 0] rfl ?_
                  exact hk18 a15
            · intro k16 hk16
              refine g_if_ne 104 (by decide) 100 rfl dX10_lights_97 ?_ ?_
              · refine g_iconst 1 101 rfl dX10_lights_100 (by decide) ?_
                refine g_goto 105 (by decide) dX10_lights_101 ?_
                exact hk16 1
              · refine g_iconst 0 105 rfl dX10_lights_104 (by decide) ?_
                exact hk16 0
    · intro k5 hk5
      refine g_if_eq 36 (by decide) 25 rfl dX10_lights_22 ?_ ?_
      · refine g_aload_n 1 rfl rfl 37 rfl dX10_lights_36 ?_
        refine g_iload_n 2 rfl rfl 38 rfl dX10_lights_37 ?_
        refine g_iconst 3 39 rfl dX10_lights_38 (by decide) ?_
        refine p_cVI 0 [.int p0, .int 3] [] (c_X10_of l hO hX M p0 3) dX10_lights_39 uv_X10_78 rfl yk_X10_of ⟨by decide, by decide⟩ (lm_0 hX).1 (lm_0 hX).2 rfl (Nat.le_of_ble_eq_true rfl) rfl 42 rfl ?_
        intro x27
        refine g_sub [(0, .ref (wA Ω 0)), (1, .int p0), (2, .int a2)] [1, 2, 0] rfl ?_
        exact hk5 x27
      · refine g_iconst 1 26 rfl dX10_lights_25 (by decide) ?_
        refine g_aload_n 1 rfl rfl 27 rfl dX10_lights_26 ?_
        refine g_iload_n 2 rfl rfl 28 rfl dX10_lights_27 ?_
        refine g_iconst 3 29 rfl dX10_lights_28 (by decide) ?_
        refine p_cVI 0 [.int p0, .int 3] [.int 1] (c_X10_of l hO hX M p0 3) dX10_lights_29 uv_X10_78 rfl yk_X10_of ⟨by decide, by decide⟩ (lm_0 hX).1 (lm_0 hX).2 rfl (Nat.le_of_ble_eq_true rfl) rfl 32 rfl ?_
        intro x28
        refine g_isub 33 rfl dX10_lights_32 ?_
        refine g_goto 42 (by decide) dX10_lights_33 ?_
        refine g_sub [(0, .ref (wA Ω 0)), (1, .int p0), (2, .int a2)] [1, 2, 0] rfl ?_
        exact hk5 (1 - x28)
  · intro k3 hk3
    refine g_icmp_ne 19 (by decide) 15 rfl dX10_lights_12 ?_ ?_
    · refine g_iconst 1 16 rfl dX10_lights_15 (by decide) ?_
      refine g_goto 20 (by decide) dX10_lights_16 ?_
      exact hk3 1
    · refine g_iconst 0 20 rfl dX10_lights_19 (by decide) ?_
      exact hk3 0
def fX10_gap (M : Mem) (p0 : Int32) (p1 : Int32) (p2 : Int32) (p3 : Int32) : Option Int32 := clp (fX10_first M p0 p1 p3) (fun x1 => clp (fX10_first M p0 p1 p2) (fun x2 => clp (fX10_length M p0 p1 p2) (fun x3 => clp (fX10_mod M ((x1 - x2) - x3)) (fun x4 => some x4))))
set_option maxRecDepth 100000 in
set_option maxHeartbeats 4000000 in
theorem c_X10_gap {Ω : Wd} (l : Launch) (hO : OkW Ω) (hX : LM Ω)  (M : Mem) (p0 : Int32) (p1 : Int32) (p2 : Int32) (p3 : Int32) : ∀ r, fX10_gap M p0 p1 p2 p3 = some r → Ct l yX10_gap (.code yX10_gap cX10_gap 5 (some .int)) 3 67 Ω [.ref (wA Ω 0), .int p0, .int p1, .int p2, .int p3] M ((cpI M) r) := by
  refine ofG [(0, .ref (wA Ω 0)), (1, .int p0), (2, .int p1), (3, .int p2), (4, .int p3)] hO (by decide) rfl (Nat.le_of_ble_eq_true rfl) rfl ?_
  intro p e s m args below meth c
  unfold fX10_gap
  refine g_aload_n 0 rfl rfl 1 rfl dX10_gap_0 ?_
  refine g_aload_n 0 rfl rfl 2 rfl dX10_gap_1 ?_
  refine g_iload_n 1 rfl rfl 3 rfl dX10_gap_2 ?_
  refine g_iload_n 2 rfl rfl 4 rfl dX10_gap_3 ?_
  refine g_iload 4 rfl 6 rfl dX10_gap_4 ?_
  refine p_cVI 0 [.int p0, .int p1, .int p3] [.ref (wA Ω 0)] (c_X10_first l hO hX M p0 p1 p3) dX10_gap_6 uv_X10_93 rfl yk_X10_first ⟨by decide, by decide⟩ (lm_0 hX).1 (lm_0 hX).2 rfl (Nat.le_of_ble_eq_true rfl) rfl 9 rfl ?_
  intro x1
  refine g_aload_n 0 rfl rfl 10 rfl dX10_gap_9 ?_
  refine g_iload_n 1 rfl rfl 11 rfl dX10_gap_10 ?_
  refine g_iload_n 2 rfl rfl 12 rfl dX10_gap_11 ?_
  refine g_iload_n 3 rfl rfl 13 rfl dX10_gap_12 ?_
  refine p_cVI 0 [.int p0, .int p1, .int p2] [.int x1, .ref (wA Ω 0)] (c_X10_first l hO hX M p0 p1 p2) dX10_gap_13 uv_X10_93 rfl yk_X10_first ⟨by decide, by decide⟩ (lm_0 hX).1 (lm_0 hX).2 rfl (Nat.le_of_ble_eq_true rfl) rfl 16 rfl ?_
  intro x2
  refine g_isub 17 rfl dX10_gap_16 ?_
  refine g_aload_n 0 rfl rfl 18 rfl dX10_gap_17 ?_
  refine g_iload_n 1 rfl rfl 19 rfl dX10_gap_18 ?_
  refine g_iload_n 2 rfl rfl 20 rfl dX10_gap_19 ?_
  refine g_iload_n 3 rfl rfl 21 rfl dX10_gap_20 ?_
  refine p_cVI 0 [.int p0, .int p1, .int p2] [.int (x1 - x2), .ref (wA Ω 0)] (c_X10_length l hO hX M p0 p1 p2) dX10_gap_21 uv_X10_96 rfl yk_X10_length ⟨by decide, by decide⟩ (lm_0 hX).1 (lm_0 hX).2 rfl (Nat.le_of_ble_eq_true rfl) rfl 24 rfl ?_
  intro x3
  refine g_isub 25 rfl dX10_gap_24 ?_
  refine p_cVI 0 [.int ((x1 - x2) - x3)] [] (c_X10_mod l hO hX M ((x1 - x2) - x3)) dX10_gap_25 uv_X10_86 rfl yk_X10_mod ⟨by decide, by decide⟩ (lm_0 hX).1 (lm_0 hX).2 rfl (Nat.le_of_ble_eq_true rfl) rfl 28 rfl ?_
  intro x4
  exact p_iret rfl dX10_gap_28
def fX10_meet_L1 (p0 : Int32) (p1 : Int32) (p2 : Int32) (p3 : Int32) (M : Mem) (k2 : Int32 → Option Int32) (a1 : Int32) : Option Int32 := grd (inb 0 490) (if M 1 (0 : Int32).toNatClampNeg ≤ a1 then (some 0) else (clp (fX10_isOn M p0 p1 p2 a1) (fun x3 => jn (fun (a4 : Unit) => bnd (a1 + 1) (fun x6 => k2 x6)) (fun k5 => if x3 = 0 then (k5 ()) else (clp (fX10_isOn M p0 p1 p3 a1) (fun x7 => if x7 = 0 then (k5 ()) else (some 1)))))))
def fX10_meet (M : Mem) (p0 : Int32) (p1 : Int32) (p2 : Int32) (p3 : Int32) : Option Int32 := lp (fX10_meet_L1 p0 p1 p2 p3 M) FU 0
set_option maxRecDepth 100000 in
set_option maxHeartbeats 4000000 in
theorem c_X10_meet {Ω : Wd} (l : Launch) (hO : OkW Ω) (hX : LM Ω)  (M : Mem) (p0 : Int32) (p1 : Int32) (p2 : Int32) (p3 : Int32) : ∀ r, fX10_meet M p0 p1 p2 p3 = some r → Ct l yX10_meet (.code yX10_meet cX10_meet 6 (some .boolean)) 4 91 Ω [.ref (wA Ω 0), .int p0, .int p1, .int p2, .int p3] M ((cpI M) r) := by
  refine ofG [(0, .ref (wA Ω 0)), (1, .int p0), (2, .int p1), (3, .int p2), (4, .int p3)] hO (by decide) rfl (Nat.le_of_ble_eq_true rfl) rfl ?_
  intro p e s m args below meth c
  unfold fX10_meet
  refine g_iconst 0 1 rfl dX10_meet_0 (by decide) ?_
  refine g_istoreA [(5, .int 0), (0, .ref (wA Ω 0)), (1, .int p0), (2, .int p1), (3, .int p2), (4, .int p3)] 3 rfl dX10_meet_1 (by decide) rfl ?_
  refine g_sub [(0, .ref (wA Ω 0)), (1, .int p0), (2, .int p1), (3, .int p2), (4, .int p3), (5, .int 0)] [1, 2, 3, 4, 5, 0] rfl ?_
  refine g_loop 3 (fun a1 => [(0, .ref (wA Ω 0)), (1, .int p0), (2, .int p1), (3, .int p2), (4, .int p3), (5, .int a1)]) (fun _ => []) (fun a1 => M) ?_ FU 0
  intro k2 hk2 a1
  unfold fX10_meet_L1
  refine g_iload 5 rfl 5 rfl dX10_meet_3 ?_
  refine g_aload_n 0 rfl rfl 6 rfl dX10_meet_5 ?_
  refine w_getR (lm_0 hX) rfl in_X10 1 (by decide) wf_X10_9 1 rfl 9 rfl dX10_meet_6 ?_
  refine g_iconst 0 10 rfl dX10_meet_9 (by decide) ?_
  refine w_iald (lm_1 hX) 11 rfl dX10_meet_10 ?_
  refine g_icmp_ge 47 (by decide) 14 rfl dX10_meet_11 ?_ ?_
  · refine g_iconst 0 48 rfl dX10_meet_47 (by decide) ?_
    exact p_zret rfl rfl dX10_meet_48
  · refine g_aload_n 0 rfl rfl 15 rfl dX10_meet_14 ?_
    refine g_iload_n 1 rfl rfl 16 rfl dX10_meet_15 ?_
    refine g_iload_n 2 rfl rfl 17 rfl dX10_meet_16 ?_
    refine g_iload_n 3 rfl rfl 18 rfl dX10_meet_17 ?_
    refine g_iload 5 rfl 20 rfl dX10_meet_18 ?_
    refine p_cVI 0 [.int p0, .int p1, .int p2, .int a1] [] (c_X10_isOn l hO hX M p0 p1 p2 a1) dX10_meet_20 uv_X10_133 rfl yk_X10_isOn ⟨by decide, by decide⟩ (lm_0 hX).1 (lm_0 hX).2 rfl (Nat.le_of_ble_eq_true rfl) rfl 23 rfl ?_
    intro x3
    refine g_join 41 (fun a4 => [(0, .ref (wA Ω 0)), (1, .int p0), (2, .int p1), (3, .int p2), (4, .int p3), (5, .int a1)]) (fun a4 => []) (fun a4 => M) ?_ ?_
    · intro a4
      refine g_iinc 5 rfl 1 (by decide) (fun x6 => [(5, .int x6), (0, .ref (wA Ω 0)), (1, .int p0), (2, .int p1), (3, .int p2), (4, .int p3)]) 44 rfl dX10_meet_41 (by decide) (fun _ => rfl) ?_
      intro x6
      refine g_goto 3 (by decide) dX10_meet_44 ?_
      refine g_sub [(0, .ref (wA Ω 0)), (1, .int p0), (2, .int p1), (3, .int p2), (4, .int p3), (5, .int x6)] [1, 2, 3, 4, 5, 0] rfl ?_
      exact hk2 x6
    · intro k5 hk5
      refine g_if_eq 41 (by decide) 26 rfl dX10_meet_23 ?_ ?_
      · exact hk5 ()
      · refine g_aload_n 0 rfl rfl 27 rfl dX10_meet_26 ?_
        refine g_iload_n 1 rfl rfl 28 rfl dX10_meet_27 ?_
        refine g_iload_n 2 rfl rfl 29 rfl dX10_meet_28 ?_
        refine g_iload 4 rfl 31 rfl dX10_meet_29 ?_
        refine g_iload 5 rfl 33 rfl dX10_meet_31 ?_
        refine p_cVI 0 [.int p0, .int p1, .int p3, .int a1] [] (c_X10_isOn l hO hX M p0 p1 p3 a1) dX10_meet_33 uv_X10_133 rfl yk_X10_isOn ⟨by decide, by decide⟩ (lm_0 hX).1 (lm_0 hX).2 rfl (Nat.le_of_ble_eq_true rfl) rfl 36 rfl ?_
        intro x7
        refine g_if_eq 41 (by decide) 39 rfl dX10_meet_36 ?_ ?_
        · exact hk5 ()
        · refine g_iconst 1 40 rfl dX10_meet_39 (by decide) ?_
          exact p_zret rfl rfl dX10_meet_40
def fX10_bars (M : Mem) (p0 : Int32) (p1 : Int32) (p2 : Int32) (p3 : Int32) (p4 : Int32) : Option Int32 := jn (fun (a1 : Unit) => some 0) (fun k2 => if p3 = p2 then (k2 ()) else (clp (fX10_clear M p0 p2 p3) (fun x3 => if x3 < 0 then (k2 ()) else (clp (fX10_length M p0 p1 p3) (fun x4 => if x4 = 0 then (k2 ()) else (if p4 = 3 then (clp (fX10_meet M p0 p1 p2 p3) (fun x13 => jn (fun (a14 : Int32) => some a14) (fun k15 => if x13 = 0 then (k15 0) else (k15 3)))) else (if p4 = 4 then (clp (fX10_gap M p0 p1 p3 p2) (fun x9 => clp (fX10_clear M p0 p3 p2) (fun x10 => jn (fun (a11 : Int32) => some a11) (fun k12 => if x10 ≤ x9 then (k12 0) else (k12 4))))) else (clp (fX10_gap M p0 p1 p2 p3) (fun x5 => clp (fX10_clear M p0 p2 p3) (fun x6 => jn (fun (a7 : Int32) => some a7) (fun k8 => if x6 ≤ x5 then (k8 0) else (k8 5))))))))))))
set_option maxRecDepth 100000 in
set_option maxHeartbeats 4000000 in
theorem c_X10_bars {Ω : Wd} (l : Launch) (hO : OkW Ω) (hX : LM Ω)  (M : Mem) (p0 : Int32) (p1 : Int32) (p2 : Int32) (p3 : Int32) (p4 : Int32) : ∀ r, fX10_bars M p0 p1 p2 p3 p4 = some r → Ct l yX10_bars (.code yX10_bars cX10_bars 6 (some .int)) 5 116 Ω [.ref (wA Ω 0), .int p0, .int p1, .int p2, .int p3, .int p4] M ((cpI M) r) := by
  refine ofG [(0, .ref (wA Ω 0)), (1, .int p0), (2, .int p1), (3, .int p2), (4, .int p3), (5, .int p4)] hO (by decide) rfl (Nat.le_of_ble_eq_true rfl) rfl ?_
  intro p e s m args below meth c
  unfold fX10_bars
  refine g_iload 4 rfl 2 rfl dX10_bars_0 ?_
  refine g_iload_n 3 rfl rfl 3 rfl dX10_bars_2 ?_
  refine g_join 28 (fun a1 => []) (fun a1 => []) (fun a1 => M) ?_ ?_
  · intro a1
    refine g_iconst 0 29 rfl dX10_bars_28 (by decide) ?_
    exact p_iret rfl dX10_bars_29
  · intro k2 hk2
    refine g_icmp_eq 28 (by decide) 6 rfl dX10_bars_3 ?_ ?_
    · refine g_sub [] [] rfl ?_
      exact hk2 ()
    · refine g_aload_n 0 rfl rfl 7 rfl dX10_bars_6 ?_
      refine g_iload_n 1 rfl rfl 8 rfl dX10_bars_7 ?_
      refine g_iload_n 3 rfl rfl 9 rfl dX10_bars_8 ?_
      refine g_iload 4 rfl 11 rfl dX10_bars_9 ?_
      refine p_cVI 0 [.int p0, .int p2, .int p3] [] (c_X10_clear l hO hX M p0 p2 p3) dX10_bars_11 uv_X10_121 rfl yk_X10_clear ⟨by decide, by decide⟩ (lm_0 hX).1 (lm_0 hX).2 rfl (Nat.le_of_ble_eq_true rfl) rfl 14 rfl ?_
      intro x3
      refine g_if_lt 28 (by decide) 17 rfl dX10_bars_14 ?_ ?_
      · refine g_sub [] [] rfl ?_
        exact hk2 ()
      · refine g_aload_n 0 rfl rfl 18 rfl dX10_bars_17 ?_
        refine g_iload_n 1 rfl rfl 19 rfl dX10_bars_18 ?_
        refine g_iload_n 2 rfl rfl 20 rfl dX10_bars_19 ?_
        refine g_iload 4 rfl 22 rfl dX10_bars_20 ?_
        refine p_cVI 0 [.int p0, .int p1, .int p3] [] (c_X10_length l hO hX M p0 p1 p3) dX10_bars_22 uv_X10_96 rfl yk_X10_length ⟨by decide, by decide⟩ (lm_0 hX).1 (lm_0 hX).2 rfl (Nat.le_of_ble_eq_true rfl) rfl 25 rfl ?_
        intro x4
        refine g_if_ne 30 (by decide) 28 rfl dX10_bars_25 ?_ ?_
        · refine g_sub [] [] rfl ?_
          exact hk2 ()
        · refine g_iload 5 rfl 32 rfl dX10_bars_30 ?_
          refine g_case ?_ ?_
          · intro h32_0
            refine g_look (off := 28) 60 (by decide) (by rw [h32_0]; decide) (by decide) dX10_bars_32 ?_
            refine g_aload_n 0 rfl rfl 61 rfl dX10_bars_60 ?_
            refine g_iload_n 1 rfl rfl 62 rfl dX10_bars_61 ?_
            refine g_iload_n 2 rfl rfl 63 rfl dX10_bars_62 ?_
            refine g_iload_n 3 rfl rfl 64 rfl dX10_bars_63 ?_
            refine g_iload 4 rfl 66 rfl dX10_bars_64 ?_
            refine p_cVI 0 [.int p0, .int p1, .int p2, .int p3] [] (c_X10_meet l hO hX M p0 p1 p2 p3) dX10_bars_66 uv_X10_140 rfl yk_X10_meet ⟨by decide, by decide⟩ (lm_0 hX).1 (lm_0 hX).2 rfl (Nat.le_of_ble_eq_true rfl) rfl 69 rfl ?_
            intro x13
            refine g_join 77 (fun a14 => []) (fun a14 => [.int a14]) (fun a14 => M) ?_ ?_
            · intro a14
              exact p_iret rfl dX10_bars_77
            · intro k15 hk15
              refine g_if_eq 76 (by decide) 72 rfl dX10_bars_69 ?_ ?_
              · refine g_iconst 0 77 rfl dX10_bars_76 (by decide) ?_
                refine g_sub [] [] rfl ?_
                exact hk15 0
              · refine g_iconst 3 73 rfl dX10_bars_72 (by decide) ?_
                refine g_goto 77 (by decide) dX10_bars_73 ?_
                refine g_sub [] [] rfl ?_
                exact hk15 3
          · intro h32_0
            refine g_case ?_ ?_
            · intro h32_1
              refine g_look (off := 46) 78 (by decide) (by rw [h32_1]; decide) (by decide) dX10_bars_32 ?_
              refine g_aload_n 0 rfl rfl 79 rfl dX10_bars_78 ?_
              refine g_iload_n 1 rfl rfl 80 rfl dX10_bars_79 ?_
              refine g_iload_n 2 rfl rfl 81 rfl dX10_bars_80 ?_
              refine g_iload 4 rfl 83 rfl dX10_bars_81 ?_
              refine g_iload_n 3 rfl rfl 84 rfl dX10_bars_83 ?_
              refine p_cVI 0 [.int p0, .int p1, .int p3, .int p2] [] (c_X10_gap l hO hX M p0 p1 p3 p2) dX10_bars_84 uv_X10_143 rfl yk_X10_gap ⟨by decide, by decide⟩ (lm_0 hX).1 (lm_0 hX).2 rfl (Nat.le_of_ble_eq_true rfl) rfl 87 rfl ?_
              intro x9
              refine g_aload_n 0 rfl rfl 88 rfl dX10_bars_87 ?_
              refine g_iload_n 1 rfl rfl 89 rfl dX10_bars_88 ?_
              refine g_iload 4 rfl 91 rfl dX10_bars_89 ?_
              refine g_iload_n 3 rfl rfl 92 rfl dX10_bars_91 ?_
              refine p_cVI 0 [.int p0, .int p3, .int p2] [.int x9] (c_X10_clear l hO hX M p0 p3 p2) dX10_bars_92 uv_X10_121 rfl yk_X10_clear ⟨by decide, by decide⟩ (lm_0 hX).1 (lm_0 hX).2 rfl (Nat.le_of_ble_eq_true rfl) rfl 95 rfl ?_
              intro x10
              refine g_join 103 (fun a11 => []) (fun a11 => [.int a11]) (fun a11 => M) ?_ ?_
              · intro a11
                exact p_iret rfl dX10_bars_103
              · intro k12 hk12
                refine g_icmp_ge 102 (by decide) 98 rfl dX10_bars_95 ?_ ?_
                · refine g_iconst 0 103 rfl dX10_bars_102 (by decide) ?_
                  refine g_sub [] [] rfl ?_
                  exact hk12 0
                · refine g_iconst 4 99 rfl dX10_bars_98 (by decide) ?_
                  refine g_goto 103 (by decide) dX10_bars_99 ?_
                  refine g_sub [] [] rfl ?_
                  exact hk12 4
            · intro h32_1
              refine g_look (off := 72) 104 (by decide) ((lv_osw h32_0 rfl).trans ((lv_osw h32_1 rfl).trans (rfl))) (by decide) dX10_bars_32 ?_
              refine g_aload_n 0 rfl rfl 105 rfl dX10_bars_104 ?_
              refine g_iload_n 1 rfl rfl 106 rfl dX10_bars_105 ?_
              refine g_iload_n 2 rfl rfl 107 rfl dX10_bars_106 ?_
              refine g_iload_n 3 rfl rfl 108 rfl dX10_bars_107 ?_
              refine g_iload 4 rfl 110 rfl dX10_bars_108 ?_
              refine p_cVI 0 [.int p0, .int p1, .int p2, .int p3] [] (c_X10_gap l hO hX M p0 p1 p2 p3) dX10_bars_110 uv_X10_143 rfl yk_X10_gap ⟨by decide, by decide⟩ (lm_0 hX).1 (lm_0 hX).2 rfl (Nat.le_of_ble_eq_true rfl) rfl 113 rfl ?_
              intro x5
              refine g_aload_n 0 rfl rfl 114 rfl dX10_bars_113 ?_
              refine g_iload_n 1 rfl rfl 115 rfl dX10_bars_114 ?_
              refine g_iload_n 3 rfl rfl 116 rfl dX10_bars_115 ?_
              refine g_iload 4 rfl 118 rfl dX10_bars_116 ?_
              refine p_cVI 0 [.int p0, .int p2, .int p3] [.int x5] (c_X10_clear l hO hX M p0 p2 p3) dX10_bars_118 uv_X10_121 rfl yk_X10_clear ⟨by decide, by decide⟩ (lm_0 hX).1 (lm_0 hX).2 rfl (Nat.le_of_ble_eq_true rfl) rfl 121 rfl ?_
              intro x6
              refine g_join 129 (fun a7 => []) (fun a7 => [.int a7]) (fun a7 => M) ?_ ?_
              · intro a7
                exact p_iret rfl dX10_bars_129
              · intro k8 hk8
                refine g_icmp_ge 128 (by decide) 124 rfl dX10_bars_121 ?_ ?_
                · refine g_iconst 0 129 rfl dX10_bars_128 (by decide) ?_
                  refine g_sub [] [] rfl ?_
                  exact hk8 0
                · refine g_iconst 5 125 rfl dX10_bars_124 (by decide) ?_
                  refine g_goto 129 (by decide) dX10_bars_125 ?_
                  refine g_sub [] [] rfl ?_
                  exact hk8 5
def fX10_barred_L1 (p0 : Int32) (p1 : Int32) (p2 : Int32) (M : Mem) (a2 : Int32) (k5 : Unit → Option Int32) (k8 : Int32 → Option Int32) (a7 : Int32) : Option Int32 := clp (fX10_of M p0 2) (fun x9 => if x9 ≤ a7 then (k5 ()) else (clp (fX10_bars M p0 p1 p2 a7 a2) (fun x10 => if x10 ≤ 0 then (bnd (a7 + 1) (fun x11 => k8 x11)) else (some a2))))
def fX10_barred_L2 (p0 : Int32) (p1 : Int32) (p2 : Int32) (M : Mem) (k3 : Int32 → Option Int32) (a2 : Int32) : Option Int32 := if 5 < a2 then (some 0) else (jn (fun (a4 : Unit) => bnd (a2 + 1) (fun x6 => k3 x6)) (fun k5 => lp (fX10_barred_L1 p0 p1 p2 M a2 k5) FU 0))
def fX10_barred (M : Mem) (p0 : Int32) (p1 : Int32) (p2 : Int32) : Option Int32 := clp (fX10_length M p0 p1 p2) (fun x1 => if x1 = 0 then (some 0) else (lp (fX10_barred_L2 p0 p1 p2 M) FU 3))
set_option maxRecDepth 100000 in
set_option maxHeartbeats 4000000 in
theorem c_X10_barred {Ω : Wd} (l : Launch) (hO : OkW Ω) (hX : LM Ω)  (M : Mem) (p0 : Int32) (p1 : Int32) (p2 : Int32) : ∀ r, fX10_barred M p0 p1 p2 = some r → Ct l yX10_barred (.code yX10_barred cX10_barred 6 (some .int)) 6 141 Ω [.ref (wA Ω 0), .int p0, .int p1, .int p2] M ((cpI M) r) := by
  refine ofG [(0, .ref (wA Ω 0)), (1, .int p0), (2, .int p1), (3, .int p2)] hO (by decide) rfl (Nat.le_of_ble_eq_true rfl) rfl ?_
  intro p e s m args below meth c
  unfold fX10_barred
  refine g_aload_n 0 rfl rfl 1 rfl dX10_barred_0 ?_
  refine g_iload_n 1 rfl rfl 2 rfl dX10_barred_1 ?_
  refine g_iload_n 2 rfl rfl 3 rfl dX10_barred_2 ?_
  refine g_iload_n 3 rfl rfl 4 rfl dX10_barred_3 ?_
  refine p_cVI 0 [.int p0, .int p1, .int p2] [] (c_X10_length l hO hX M p0 p1 p2) dX10_barred_4 uv_X10_96 rfl yk_X10_length ⟨by decide, by decide⟩ (lm_0 hX).1 (lm_0 hX).2 rfl (Nat.le_of_ble_eq_true rfl) rfl 7 rfl ?_
  intro x1
  refine g_if_ne 12 (by decide) 10 rfl dX10_barred_7 ?_ ?_
  · refine g_iconst 0 11 rfl dX10_barred_10 (by decide) ?_
    exact p_iret rfl dX10_barred_11
  · refine g_iconst 3 13 rfl dX10_barred_12 (by decide) ?_
    refine g_istoreA [(4, .int 3), (0, .ref (wA Ω 0)), (1, .int p0), (2, .int p1), (3, .int p2)] 15 rfl dX10_barred_13 (by decide) rfl ?_
    refine g_sub [(0, .ref (wA Ω 0)), (1, .int p0), (2, .int p1), (3, .int p2), (4, .int 3)] [1, 2, 3, 4, 0] rfl ?_
    refine g_loop 15 (fun a2 => [(0, .ref (wA Ω 0)), (1, .int p0), (2, .int p1), (3, .int p2), (4, .int a2)]) (fun _ => []) (fun a2 => M) ?_ FU 3
    intro k3 hk3 a2
    unfold fX10_barred_L2
    refine g_iload 4 rfl 17 rfl dX10_barred_15 ?_
    refine g_iconst 5 18 rfl dX10_barred_17 (by decide) ?_
    refine g_icmp_gt 64 (by decide) 21 rfl dX10_barred_18 ?_ ?_
    · refine g_iconst 0 65 rfl dX10_barred_64 (by decide) ?_
      exact p_iret rfl dX10_barred_65
    · refine g_iconst 0 22 rfl dX10_barred_21 (by decide) ?_
      refine g_istoreA [(5, .int 0), (0, .ref (wA Ω 0)), (1, .int p0), (2, .int p1), (3, .int p2), (4, .int a2)] 24 rfl dX10_barred_22 (by decide) rfl ?_
      refine g_join 58 (fun a4 => [(0, .ref (wA Ω 0)), (1, .int p0), (2, .int p1), (3, .int p2), (4, .int a2)]) (fun a4 => []) (fun a4 => M) ?_ ?_
      · intro a4
        refine g_iinc 4 rfl 1 (by decide) (fun x6 => [(4, .int x6), (0, .ref (wA Ω 0)), (1, .int p0), (2, .int p1), (3, .int p2)]) 61 rfl dX10_barred_58 (by decide) (fun _ => rfl) ?_
        intro x6
        refine g_goto 15 (by decide) dX10_barred_61 ?_
        refine g_sub [(0, .ref (wA Ω 0)), (1, .int p0), (2, .int p1), (3, .int p2), (4, .int x6)] [1, 2, 3, 4, 0] rfl ?_
        exact hk3 x6
      · intro k5 hk5
        refine g_sub [(0, .ref (wA Ω 0)), (1, .int p0), (2, .int p1), (3, .int p2), (4, .int a2), (5, .int 0)] [1, 2, 3, 4, 5, 0] rfl ?_
        refine g_loop 24 (fun a7 => [(0, .ref (wA Ω 0)), (1, .int p0), (2, .int p1), (3, .int p2), (4, .int a2), (5, .int a7)]) (fun _ => []) (fun a7 => M) ?_ FU 0
        intro k8 hk8 a7
        unfold fX10_barred_L1
        refine g_iload 5 rfl 26 rfl dX10_barred_24 ?_
        refine g_aload_n 0 rfl rfl 27 rfl dX10_barred_26 ?_
        refine g_iload_n 1 rfl rfl 28 rfl dX10_barred_27 ?_
        refine g_iconst 2 29 rfl dX10_barred_28 (by decide) ?_
        refine p_cVI 0 [.int p0, .int 2] [.int a7] (c_X10_of l hO hX M p0 2) dX10_barred_29 uv_X10_78 rfl yk_X10_of ⟨by decide, by decide⟩ (lm_0 hX).1 (lm_0 hX).2 rfl (Nat.le_of_ble_eq_true rfl) rfl 32 rfl ?_
        intro x9
        refine g_icmp_ge 58 (by decide) 35 rfl dX10_barred_32 ?_ ?_
        · refine g_sub [(0, .ref (wA Ω 0)), (1, .int p0), (2, .int p1), (3, .int p2), (4, .int a2)] [0, 1, 2, 3, 4] rfl ?_
          exact hk5 ()
        · refine g_aload_n 0 rfl rfl 36 rfl dX10_barred_35 ?_
          refine g_iload_n 1 rfl rfl 37 rfl dX10_barred_36 ?_
          refine g_iload_n 2 rfl rfl 38 rfl dX10_barred_37 ?_
          refine g_iload_n 3 rfl rfl 39 rfl dX10_barred_38 ?_
          refine g_iload 5 rfl 41 rfl dX10_barred_39 ?_
          refine g_iload 4 rfl 43 rfl dX10_barred_41 ?_
          refine p_cVI 0 [.int p0, .int p1, .int p2, .int a7, .int a2] [] (c_X10_bars l hO hX M p0 p1 p2 a7 a2) dX10_barred_43 uv_X10_147 rfl yk_X10_bars ⟨by decide, by decide⟩ (lm_0 hX).1 (lm_0 hX).2 rfl (Nat.le_of_ble_eq_true rfl) rfl 46 rfl ?_
          intro x10
          refine g_if_le 52 (by decide) 49 rfl dX10_barred_46 ?_ ?_
          · refine g_iinc 5 rfl 1 (by decide) (fun x11 => [(5, .int x11), (0, .ref (wA Ω 0)), (1, .int p0), (2, .int p1), (3, .int p2), (4, .int a2)]) 55 rfl dX10_barred_52 (by decide) (fun _ => rfl) ?_
            intro x11
            refine g_goto 24 (by decide) dX10_barred_55 ?_
            refine g_sub [(0, .ref (wA Ω 0)), (1, .int p0), (2, .int p1), (3, .int p2), (4, .int a2), (5, .int x11)] [1, 2, 3, 4, 5, 0] rfl ?_
            exact hk8 x11
          · refine g_iload 4 rfl 51 rfl dX10_barred_49 ?_
            exact p_iret rfl dX10_barred_51
def fX10_conflict_L1 (k27 : Mem → Option (Int32 × Mem)) (k31 : (Int32 × Mem) → Option (Int32 × Mem)) (a30 : Int32 × Mem) : Option (Int32 × Mem) := if 490 ≤ a30.1 then (k27 a30.2) else (grd (inb a30.1 490) (grd (inb a30.1 490) (bnd (mset a30.2 1 a30.1.toNatClampNeg (a30.2 4 a30.1.toNatClampNeg)) (fun M32 => bnd (a30.1 + 1) (fun x33 => k31 (x33, M32))))))
def fX10_conflict (M : Mem) (p0 : Int32) (p1 : Int32) (p2 : Int32) (p3 : Int32) (p4 : Int32) : Option (Int32 × Mem) := cl (fX10_tries M) (fun u1 M2 => clp (fX10_isGroup M2 p0 p1) (fun x3 => jn (fun (a4 : Unit) => cl (fX10_raises M2 1) (fun x6 M7 => some (x6, M7))) (fun k5 => if x3 = 0 then (k5 ()) else (clp (fX10_isGroup M2 p0 p2) (fun x8 => if x8 = 0 then (k5 ()) else (jn (fun (a9 : Unit) => cl (fX10_raises M2 2) (fun x11 M12 => some (x11, M12))) (fun k10 => if p1 = p2 then (k10 ()) else (clp (fX10_in M2 p3 0 20) (fun x13 => if x13 = 0 then (k10 ()) else (clp (fX10_in M2 p4 0 20) (fun x14 => if x14 = 0 then (k10 ()) else (clp (fX10_of M2 p0 4) (fun x15 => if x15 < 0 then (cl (fX10_clears M2 p0 p1 p2 p3) (fun u16 M17 => cl (fX10_clears M17 p0 p2 p1 p4) (fun u18 M19 => clp (fX10_barred M19 p0 0 p1) (fun x20 => jn (fun (a21 : Int32) => if a21 ≤ 0 then (cl (fX10_keeps M19) (fun u23 M24 => clp (fX10_conflicts M24 p0) (fun x25 => some (x25, M24)))) else (jn (fun (a26 : Mem) => cl (fX10_refuses a26 a21 4) (fun x28 M29 => some (x28, M29))) (fun k27 => lp (fX10_conflict_L1 k27) FU (0, M19)))) (fun k22 => if x20 = 0 then (clp (fX10_barred M19 p0 1 p1) (fun x34 => k22 x34)) else (k22 x20)))))) else (cl (fX10_raises M2 3) (fun x35 M36 => some (x35, M36))))))))))))))))
set_option maxRecDepth 100000 in
set_option maxHeartbeats 4000000 in
theorem c_X10_conflict {Ω : Wd} (l : Launch) (hO : OkW Ω) (hX : LM Ω)  (M : Mem) (p0 : Int32) (p1 : Int32) (p2 : Int32) (p3 : Int32) (p4 : Int32) : ∀ r, fX10_conflict M p0 p1 p2 p3 p4 = some r → Ct l yX10_conflict (.code yX10_conflict cX10_conflict 8 (some .int)) 7 166 Ω [.ref (wA Ω 0), .int p0, .int p1, .int p2, .int p3, .int p4] M (cvI r) := by
  refine ofG [(0, .ref (wA Ω 0)), (1, .int p0), (2, .int p1), (3, .int p2), (4, .int p3), (5, .int p4)] hO (by decide) rfl (Nat.le_of_ble_eq_true rfl) rfl ?_
  intro p e s m args below meth c
  unfold fX10_conflict
  refine g_aload_n 0 rfl rfl 1 rfl dX10_conflict_0 ?_
  refine g_cVV 0 [] [] (c_X10_tries l hO hX M) dX10_conflict_1 uv_X10_109 rfl yk_X10_tries ⟨by decide, by decide⟩ (lm_0 hX).1 (lm_0 hX).2 rfl (Nat.le_of_ble_eq_true rfl) rfl 4 rfl ?_
  intro u1 M2
  refine g_aload_n 0 rfl rfl 5 rfl dX10_conflict_4 ?_
  refine g_iload_n 1 rfl rfl 6 rfl dX10_conflict_5 ?_
  refine g_iload_n 2 rfl rfl 7 rfl dX10_conflict_6 ?_
  refine p_cVI 0 [.int p0, .int p1] [] (c_X10_isGroup l hO hX M2 p0 p1) dX10_conflict_7 uv_X10_105 rfl yk_X10_isGroup ⟨by decide, by decide⟩ (lm_0 hX).1 (lm_0 hX).2 rfl (Nat.le_of_ble_eq_true rfl) rfl 10 rfl ?_
  intro x3
  refine g_join 22 (fun a4 => [(0, .ref (wA Ω 0))]) (fun a4 => []) (fun a4 => M2) ?_ ?_
  · intro a4
    refine g_aload_n 0 rfl rfl 23 rfl dX10_conflict_22 ?_
    refine g_iconst 1 24 rfl dX10_conflict_23 (by decide) ?_
    refine g_cVI 0 [.int 1] [] (c_X10_raises l hO hX M2 1) dX10_conflict_24 uv_X10_53 rfl yk_X10_raises ⟨by decide, by decide⟩ (lm_0 hX).1 (lm_0 hX).2 rfl (Nat.le_of_ble_eq_true rfl) rfl 27 rfl ?_
    intro x6 M7
    exact g_iret rfl dX10_conflict_27
  · intro k5 hk5
    refine g_if_eq 22 (by decide) 13 rfl dX10_conflict_10 ?_ ?_
    · refine g_sub [(0, .ref (wA Ω 0))] [0] rfl ?_
      exact hk5 ()
    · refine g_aload_n 0 rfl rfl 14 rfl dX10_conflict_13 ?_
      refine g_iload_n 1 rfl rfl 15 rfl dX10_conflict_14 ?_
      refine g_iload_n 3 rfl rfl 16 rfl dX10_conflict_15 ?_
      refine p_cVI 0 [.int p0, .int p2] [] (c_X10_isGroup l hO hX M2 p0 p2) dX10_conflict_16 uv_X10_105 rfl yk_X10_isGroup ⟨by decide, by decide⟩ (lm_0 hX).1 (lm_0 hX).2 rfl (Nat.le_of_ble_eq_true rfl) rfl 19 rfl ?_
      intro x8
      refine g_if_ne 28 (by decide) 22 rfl dX10_conflict_19 ?_ ?_
      · refine g_sub [(0, .ref (wA Ω 0))] [0] rfl ?_
        exact hk5 ()
      · refine g_iload_n 2 rfl rfl 29 rfl dX10_conflict_28 ?_
        refine g_iload_n 3 rfl rfl 30 rfl dX10_conflict_29 ?_
        refine g_join 55 (fun a9 => [(0, .ref (wA Ω 0))]) (fun a9 => []) (fun a9 => M2) ?_ ?_
        · intro a9
          refine g_aload_n 0 rfl rfl 56 rfl dX10_conflict_55 ?_
          refine g_iconst 2 57 rfl dX10_conflict_56 (by decide) ?_
          refine g_cVI 0 [.int 2] [] (c_X10_raises l hO hX M2 2) dX10_conflict_57 uv_X10_53 rfl yk_X10_raises ⟨by decide, by decide⟩ (lm_0 hX).1 (lm_0 hX).2 rfl (Nat.le_of_ble_eq_true rfl) rfl 60 rfl ?_
          intro x11 M12
          exact g_iret rfl dX10_conflict_60
        · intro k10 hk10
          refine g_icmp_eq 55 (by decide) 33 rfl dX10_conflict_30 ?_ ?_
          · refine g_sub [(0, .ref (wA Ω 0))] [0] rfl ?_
            exact hk10 ()
          · refine g_iload 4 rfl 35 rfl dX10_conflict_33 ?_
            refine g_iconst 0 36 rfl dX10_conflict_35 (by decide) ?_
            refine g_bipush 20 38 rfl dX10_conflict_36 (by decide) ?_
            refine p_cSI [.int p3, .int 0, .int 20] [] (c_X10_in l hO M2 p3 0 20) dX10_conflict_38 us_X10_70 rfl yk_X10_in ⟨by decide, by decide⟩ (Nat.le_of_ble_eq_true rfl) rfl 41 rfl ?_
            intro x13
            refine g_if_eq 55 (by decide) 44 rfl dX10_conflict_41 ?_ ?_
            · refine g_sub [(0, .ref (wA Ω 0))] [0] rfl ?_
              exact hk10 ()
            · refine g_iload 5 rfl 46 rfl dX10_conflict_44 ?_
              refine g_iconst 0 47 rfl dX10_conflict_46 (by decide) ?_
              refine g_bipush 20 49 rfl dX10_conflict_47 (by decide) ?_
              refine p_cSI [.int p4, .int 0, .int 20] [] (c_X10_in l hO M2 p4 0 20) dX10_conflict_49 us_X10_70 rfl yk_X10_in ⟨by decide, by decide⟩ (Nat.le_of_ble_eq_true rfl) rfl 52 rfl ?_
              intro x14
              refine g_if_ne 61 (by decide) 55 rfl dX10_conflict_52 ?_ ?_
              · refine g_sub [(0, .ref (wA Ω 0))] [0] rfl ?_
                exact hk10 ()
              · refine g_aload_n 0 rfl rfl 62 rfl dX10_conflict_61 ?_
                refine g_iload_n 1 rfl rfl 63 rfl dX10_conflict_62 ?_
                refine g_iconst 4 64 rfl dX10_conflict_63 (by decide) ?_
                refine p_cVI 0 [.int p0, .int 4] [] (c_X10_of l hO hX M2 p0 4) dX10_conflict_64 uv_X10_78 rfl yk_X10_of ⟨by decide, by decide⟩ (lm_0 hX).1 (lm_0 hX).2 rfl (Nat.le_of_ble_eq_true rfl) rfl 67 rfl ?_
                intro x15
                refine g_if_lt 76 (by decide) 70 rfl dX10_conflict_67 ?_ ?_
                · refine g_aload_n 0 rfl rfl 77 rfl dX10_conflict_76 ?_
                  refine g_iload_n 1 rfl rfl 78 rfl dX10_conflict_77 ?_
                  refine g_iload_n 2 rfl rfl 79 rfl dX10_conflict_78 ?_
                  refine g_iload_n 3 rfl rfl 80 rfl dX10_conflict_79 ?_
                  refine g_iload 4 rfl 82 rfl dX10_conflict_80 ?_
                  refine g_cVV 0 [.int p0, .int p1, .int p2, .int p3] [] (c_X10_clears l hO hX M2 p0 p1 p2 p3) dX10_conflict_82 uv_X10_151 rfl yk_X10_clears ⟨by decide, by decide⟩ (lm_0 hX).1 (lm_0 hX).2 rfl (Nat.le_of_ble_eq_true rfl) rfl 85 rfl ?_
                  intro u16 M17
                  refine g_aload_n 0 rfl rfl 86 rfl dX10_conflict_85 ?_
                  refine g_iload_n 1 rfl rfl 87 rfl dX10_conflict_86 ?_
                  refine g_iload_n 3 rfl rfl 88 rfl dX10_conflict_87 ?_
                  refine g_iload_n 2 rfl rfl 89 rfl dX10_conflict_88 ?_
                  refine g_iload 5 rfl 91 rfl dX10_conflict_89 ?_
                  refine g_cVV 0 [.int p0, .int p2, .int p1, .int p4] [] (c_X10_clears l hO hX M17 p0 p2 p1 p4) dX10_conflict_91 uv_X10_151 rfl yk_X10_clears ⟨by decide, by decide⟩ (lm_0 hX).1 (lm_0 hX).2 rfl (Nat.le_of_ble_eq_true rfl) rfl 94 rfl ?_
                  intro u18 M19
                  refine g_aload_n 0 rfl rfl 95 rfl dX10_conflict_94 ?_
                  refine g_iload_n 1 rfl rfl 96 rfl dX10_conflict_95 ?_
                  refine g_iconst 0 97 rfl dX10_conflict_96 (by decide) ?_
                  refine g_iload_n 2 rfl rfl 98 rfl dX10_conflict_97 ?_
                  refine p_cVI 0 [.int p0, .int 0, .int p1] [] (c_X10_barred l hO hX M19 p0 0 p1) dX10_conflict_98 uv_X10_155 rfl yk_X10_barred ⟨by decide, by decide⟩ (lm_0 hX).1 (lm_0 hX).2 rfl (Nat.le_of_ble_eq_true rfl) rfl 101 rfl ?_
                  intro x20
                  refine g_istoreA [(6, .int x20), (0, .ref (wA Ω 0)), (1, .int p0), (2, .int p1), (3, .int p2), (4, .int p3), (5, .int p4)] 103 rfl dX10_conflict_101 (by decide) rfl ?_
                  refine g_iload 0 rfl 105 rfl dX10_conflict_103 ?_
                  refine g_join 117 (fun a21 => [(0, .ref (wA Ω 0)), (1, .int p0), (6, .int a21)]) (fun a21 => []) (fun a21 => M19) ?_ ?_
                  · intro a21
                    refine g_iload 2 rfl 119 rfl dX10_conflict_117 ?_
                    refine g_if_le 161 (by decide) 122 rfl dX10_conflict_119 ?_ ?_
                    · refine g_aload_n 0 rfl rfl 162 rfl dX10_conflict_161 ?_
                      refine g_cVV 0 [] [] (c_X10_keeps l hO hX M19) dX10_conflict_162 uv_X10_60 rfl yk_X10_keeps ⟨by decide, by decide⟩ (lm_0 hX).1 (lm_0 hX).2 rfl (Nat.le_of_ble_eq_true rfl) rfl 165 rfl ?_
                      intro u23 M24
                      refine g_aload_n 0 rfl rfl 166 rfl dX10_conflict_165 ?_
                      refine g_iload_n 1 rfl rfl 167 rfl dX10_conflict_166 ?_
                      refine p_cVI 0 [.int p0] [] (c_X10_conflicts l hO hX M24 p0) dX10_conflict_167 uv_X10_127 rfl yk_X10_conflicts ⟨by decide, by decide⟩ (lm_0 hX).1 (lm_0 hX).2 rfl (Nat.le_of_ble_eq_true rfl) rfl 170 rfl ?_
                      intro x25
                      exact g_iret rfl dX10_conflict_170
                    · refine g_iconst 0 123 rfl dX10_conflict_122 (by decide) ?_
                      refine g_istoreA [(7, .int 0), (0, .ref (wA Ω 0)), (1, .int p0), (6, .int a21)] 125 rfl dX10_conflict_123 (by decide) rfl ?_
                      refine g_join 153 (fun a26 => [(0, .ref (wA Ω 0)), (6, .int a21)]) (fun a26 => []) (fun a26 => a26) ?_ ?_
                      · intro a26
                        refine g_aload_n 0 rfl rfl 154 rfl dX10_conflict_153 ?_
                        refine g_iload 1 rfl 156 rfl dX10_conflict_154 ?_
                        refine g_iconst 4 157 rfl dX10_conflict_156 (by decide) ?_
                        refine g_cVI 0 [.int a21, .int 4] [] (c_X10_refuses l hO hX a26 a21 4) dX10_conflict_157 uv_X10_158 rfl yk_X10_refuses ⟨by decide, by decide⟩ (lm_0 hX).1 (lm_0 hX).2 rfl (Nat.le_of_ble_eq_true rfl) rfl 160 rfl ?_
                        intro x28 M29
                        exact g_iret rfl dX10_conflict_160
                      · intro k27 hk27
                        refine g_sub [(0, .ref (wA Ω 0)), (6, .int a21), (7, .int 0)] [1, 3, 0] rfl ?_
                        refine g_loop 125 (fun a30 => [(0, .ref (wA Ω 0)), (6, .int a21), (7, .int a30.1)]) (fun _ => []) (fun a30 => a30.2) ?_ FU (0, M19)
                        intro k31 hk31 a30
                        unfold fX10_conflict_L1
                        refine g_iload 2 rfl 127 rfl dX10_conflict_125 ?_
                        refine g_sipush 490 130 rfl dX10_conflict_127 (by decide) ?_
                        refine g_icmp_ge 153 (by decide) 133 rfl dX10_conflict_130 ?_ ?_
                        · refine g_sub [(0, .ref (wA Ω 0)), (6, .int a21)] [0, 1] rfl ?_
                          exact hk27 a30.2
                        · refine g_aload_n 0 rfl rfl 134 rfl dX10_conflict_133 ?_
                          refine w_getR (lm_0 hX) rfl in_X10 1 (by decide) wf_X10_9 1 rfl 137 rfl dX10_conflict_134 ?_
                          refine g_iload 2 rfl 139 rfl dX10_conflict_137 ?_
                          refine g_aload_n 0 rfl rfl 140 rfl dX10_conflict_139 ?_
                          refine w_getR (lm_0 hX) rfl in_X10 6 (by decide) wf_X10_19 4 rfl 143 rfl dX10_conflict_140 ?_
                          refine g_iload 2 rfl 145 rfl dX10_conflict_143 ?_
                          refine w_iald (lm_4 hX) 146 rfl dX10_conflict_145 ?_
                          refine w_iast (lm_1 hX) 147 rfl dX10_conflict_146 ?_
                          intro M32
                          refine g_iinc 2 rfl 1 (by decide) (fun x33 => [(7, .int x33), (0, .ref (wA Ω 0)), (6, .int a21)]) 150 rfl dX10_conflict_147 (by decide) (fun _ => rfl) ?_
                          intro x33
                          refine g_goto 125 (by decide) dX10_conflict_150 ?_
                          refine g_sub [(0, .ref (wA Ω 0)), (6, .int a21), (7, .int x33)] [1, 2, 0] rfl ?_
                          exact hk31 (x33, M32)
                  · intro k22 hk22
                    refine g_if_ne 117 (by decide) 108 rfl dX10_conflict_105 ?_ ?_
                    · refine g_aload_n 1 rfl rfl 109 rfl dX10_conflict_108 ?_
                      refine g_iload_n 2 rfl rfl 110 rfl dX10_conflict_109 ?_
                      refine g_iconst 1 111 rfl dX10_conflict_110 (by decide) ?_
                      refine g_iload_n 3 rfl rfl 112 rfl dX10_conflict_111 ?_
                      refine p_cVI 0 [.int p0, .int 1, .int p1] [] (c_X10_barred l hO hX M19 p0 1 p1) dX10_conflict_112 uv_X10_155 rfl yk_X10_barred ⟨by decide, by decide⟩ (lm_0 hX).1 (lm_0 hX).2 rfl (Nat.le_of_ble_eq_true rfl) rfl 115 rfl ?_
                      intro x34
                      refine g_istoreA [(6, .int x34), (0, .ref (wA Ω 0)), (1, .int p0), (2, .int p1), (3, .int p2), (4, .int p3), (5, .int p4)] 117 rfl dX10_conflict_115 (by decide) rfl ?_
                      refine g_sub [(0, .ref (wA Ω 0)), (1, .int p0), (6, .int x34)] [1, 2, 0] rfl ?_
                      exact hk22 x34
                    · refine g_sub [(0, .ref (wA Ω 0)), (1, .int p0), (6, .int x20)] [1, 2, 0] rfl ?_
                      exact hk22 x20
                · refine g_aload_n 0 rfl rfl 71 rfl dX10_conflict_70 ?_
                  refine g_iconst 3 72 rfl dX10_conflict_71 (by decide) ?_
                  refine g_cVI 0 [.int 3] [] (c_X10_raises l hO hX M2 3) dX10_conflict_72 uv_X10_53 rfl yk_X10_raises ⟨by decide, by decide⟩ (lm_0 hX).1 (lm_0 hX).2 rfl (Nat.le_of_ble_eq_true rfl) rfl 75 rfl ?_
                  intro x35 M36
                  exact g_iret rfl dX10_conflict_75
def fX10_hindered (M : Mem) (p0 : Int32) (p1 : Int32) (p2 : Int32) (p3 : Int32) (p4 : Int32) : Option (Int32 × Mem) := cl (fX10_puts M p0 p1 p2 p3 p4) (fun u1 M2 => clp (fX10_groupOf M2 p0 p2 1) (fun x3 => if x3 ≤ p4 then (grd (inb 0 490) (jn (fun (a4 : Int32) => some (a4, M2)) (fun k5 => if p4 ≤ (M2 1 (0 : Int32).toNatClampNeg) - 5 then (clp (fX10_barred M2 p0 p1 p2) (fun x6 => k5 x6)) else (k5 2)))) else (some (1, M2))))
set_option maxRecDepth 100000 in
set_option maxHeartbeats 4000000 in
theorem c_X10_hindered {Ω : Wd} (l : Launch) (hO : OkW Ω) (hX : LM Ω)  (M : Mem) (p0 : Int32) (p1 : Int32) (p2 : Int32) (p3 : Int32) (p4 : Int32) : ∀ r, fX10_hindered M p0 p1 p2 p3 p4 = some r → Ct l yX10_hindered (.code yX10_hindered cX10_hindered 6 (some .int)) 7 166 Ω [.ref (wA Ω 0), .int p0, .int p1, .int p2, .int p3, .int p4] M (cvI r) := by
  refine ofG [(0, .ref (wA Ω 0)), (1, .int p0), (2, .int p1), (3, .int p2), (4, .int p3), (5, .int p4)] hO (by decide) rfl (Nat.le_of_ble_eq_true rfl) rfl ?_
  intro p e s m args below meth c
  unfold fX10_hindered
  refine g_aload_n 0 rfl rfl 1 rfl dX10_hindered_0 ?_
  refine g_iload_n 1 rfl rfl 2 rfl dX10_hindered_1 ?_
  refine g_iload_n 2 rfl rfl 3 rfl dX10_hindered_2 ?_
  refine g_iload_n 3 rfl rfl 4 rfl dX10_hindered_3 ?_
  refine g_iload 4 rfl 6 rfl dX10_hindered_4 ?_
  refine g_iload 5 rfl 8 rfl dX10_hindered_6 ?_
  refine g_cVV 0 [.int p0, .int p1, .int p2, .int p3, .int p4] [] (c_X10_puts l hO hX M p0 p1 p2 p3 p4) dX10_hindered_8 uv_X10_161 rfl yk_X10_puts ⟨by decide, by decide⟩ (lm_0 hX).1 (lm_0 hX).2 rfl (Nat.le_of_ble_eq_true rfl) rfl 11 rfl ?_
  intro u1 M2
  refine g_iload 5 rfl 13 rfl dX10_hindered_11 ?_
  refine g_aload_n 0 rfl rfl 14 rfl dX10_hindered_13 ?_
  refine g_iload_n 1 rfl rfl 15 rfl dX10_hindered_14 ?_
  refine g_iload_n 3 rfl rfl 16 rfl dX10_hindered_15 ?_
  refine g_iconst 1 17 rfl dX10_hindered_16 (by decide) ?_
  refine p_cVI 0 [.int p0, .int p2, .int 1] [.int p4] (c_X10_groupOf l hO hX M2 p0 p2 1) dX10_hindered_17 uv_X10_89 rfl yk_X10_groupOf ⟨by decide, by decide⟩ (lm_0 hX).1 (lm_0 hX).2 rfl (Nat.le_of_ble_eq_true rfl) rfl 20 rfl ?_
  intro x3
  refine g_icmp_ge 25 (by decide) 23 rfl dX10_hindered_20 ?_ ?_
  · refine g_iload 5 rfl 27 rfl dX10_hindered_25 ?_
    refine g_aload_n 0 rfl rfl 28 rfl dX10_hindered_27 ?_
    refine w_getR (lm_0 hX) rfl in_X10 1 (by decide) wf_X10_9 1 rfl 31 rfl dX10_hindered_28 ?_
    refine g_iconst 0 32 rfl dX10_hindered_31 (by decide) ?_
    refine w_iald (lm_1 hX) 33 rfl dX10_hindered_32 ?_
    refine g_iconst 5 34 rfl dX10_hindered_33 (by decide) ?_
    refine g_isub 35 rfl dX10_hindered_34 ?_
    refine g_join 49 (fun a4 => []) (fun a4 => [.int a4]) (fun a4 => M2) ?_ ?_
    · intro a4
      exact g_iret rfl dX10_hindered_49
    · intro k5 hk5
      refine g_icmp_le 42 (by decide) 38 rfl dX10_hindered_35 ?_ ?_
      · refine g_aload_n 0 rfl rfl 43 rfl dX10_hindered_42 ?_
        refine g_iload_n 1 rfl rfl 44 rfl dX10_hindered_43 ?_
        refine g_iload_n 2 rfl rfl 45 rfl dX10_hindered_44 ?_
        refine g_iload_n 3 rfl rfl 46 rfl dX10_hindered_45 ?_
        refine p_cVI 0 [.int p0, .int p1, .int p2] [] (c_X10_barred l hO hX M2 p0 p1 p2) dX10_hindered_46 uv_X10_155 rfl yk_X10_barred ⟨by decide, by decide⟩ (lm_0 hX).1 (lm_0 hX).2 rfl (Nat.le_of_ble_eq_true rfl) rfl 49 rfl ?_
        intro x6
        refine g_sub [] [] rfl ?_
        exact hk5 x6
      · refine g_iconst 2 39 rfl dX10_hindered_38 (by decide) ?_
        refine g_goto 49 (by decide) dX10_hindered_39 ?_
        refine g_sub [] [] rfl ?_
        exact hk5 2
  · refine g_iconst 1 24 rfl dX10_hindered_23 (by decide) ?_
    exact g_iret rfl dX10_hindered_24
def fX10_greened (M : Mem) (p0 : Int32) (p1 : Int32) (p2 : Int32) (p3 : Int32) (p4 : Int32) : Option (Int32 × Mem) := clp (fX10_isPlan M p0 p1) (fun x1 => jn (fun (a2 : Unit) => some (1, M)) (fun k3 => if x1 = 0 then (k3 ()) else (clp (fX10_isGroup M p0 p2) (fun x4 => if x4 = 0 then (k3 ()) else (clp (fX10_isGreen M p3 p4) (fun x5 => if x5 = 0 then (some (2, M)) else (clp (fX10_of M p0 4) (fun x6 => if x6 < 0 then (cl (fX10_hindered M p0 p1 p2 p3 p4) (fun x7 M8 => if x7 ≤ 0 then (clp (fX10_greens M8 p0 p1) (fun x9 => bnd (mset M8 0 21 x9) (fun M10 => some (0, M10)))) else (bnd (mset M8 0 11 x7) (fun M11 => some (4, M11))))) else (some (3, M))))))))))
set_option maxRecDepth 100000 in
set_option maxHeartbeats 4000000 in
theorem c_X10_greened {Ω : Wd} (l : Launch) (hO : OkW Ω) (hX : LM Ω)  (M : Mem) (p0 : Int32) (p1 : Int32) (p2 : Int32) (p3 : Int32) (p4 : Int32) : ∀ r, fX10_greened M p0 p1 p2 p3 p4 = some r → Ct l yX10_greened (.code yX10_greened cX10_greened 7 (some .int)) 8 191 Ω [.ref (wA Ω 0), .int p0, .int p1, .int p2, .int p3, .int p4] M (cvI r) := by
  refine ofG [(0, .ref (wA Ω 0)), (1, .int p0), (2, .int p1), (3, .int p2), (4, .int p3), (5, .int p4)] hO (by decide) rfl (Nat.le_of_ble_eq_true rfl) rfl ?_
  intro p e s m args below meth c
  unfold fX10_greened
  refine g_aload_n 0 rfl rfl 1 rfl dX10_greened_0 ?_
  refine g_iload_n 1 rfl rfl 2 rfl dX10_greened_1 ?_
  refine g_iload_n 2 rfl rfl 3 rfl dX10_greened_2 ?_
  refine p_cVI 0 [.int p0, .int p1] [] (c_X10_isPlan l hO hX M p0 p1) dX10_greened_3 uv_X10_165 rfl yk_X10_isPlan ⟨by decide, by decide⟩ (lm_0 hX).1 (lm_0 hX).2 rfl (Nat.le_of_ble_eq_true rfl) rfl 6 rfl ?_
  intro x1
  refine g_join 18 (fun a2 => []) (fun a2 => []) (fun a2 => M) ?_ ?_
  · intro a2
    refine g_iconst 1 19 rfl dX10_greened_18 (by decide) ?_
    exact g_iret rfl dX10_greened_19
  · intro k3 hk3
    refine g_if_eq 18 (by decide) 9 rfl dX10_greened_6 ?_ ?_
    · refine g_sub [] [] rfl ?_
      exact hk3 ()
    · refine g_aload_n 0 rfl rfl 10 rfl dX10_greened_9 ?_
      refine g_iload_n 1 rfl rfl 11 rfl dX10_greened_10 ?_
      refine g_iload_n 3 rfl rfl 12 rfl dX10_greened_11 ?_
      refine p_cVI 0 [.int p0, .int p2] [] (c_X10_isGroup l hO hX M p0 p2) dX10_greened_12 uv_X10_105 rfl yk_X10_isGroup ⟨by decide, by decide⟩ (lm_0 hX).1 (lm_0 hX).2 rfl (Nat.le_of_ble_eq_true rfl) rfl 15 rfl ?_
      intro x4
      refine g_if_ne 20 (by decide) 18 rfl dX10_greened_15 ?_ ?_
      · refine g_sub [] [] rfl ?_
        exact hk3 ()
      · refine g_aload_n 0 rfl rfl 21 rfl dX10_greened_20 ?_
        refine g_iload 4 rfl 23 rfl dX10_greened_21 ?_
        refine g_iload 5 rfl 25 rfl dX10_greened_23 ?_
        refine p_cVI 0 [.int p3, .int p4] [] (c_X10_isGreen l hO hX M p3 p4) dX10_greened_25 uv_X10_168 rfl yk_X10_isGreen ⟨by decide, by decide⟩ (lm_0 hX).1 (lm_0 hX).2 rfl (Nat.le_of_ble_eq_true rfl) rfl 28 rfl ?_
        intro x5
        refine g_if_ne 33 (by decide) 31 rfl dX10_greened_28 ?_ ?_
        · refine g_iconst 2 32 rfl dX10_greened_31 (by decide) ?_
          exact g_iret rfl dX10_greened_32
        · refine g_aload_n 0 rfl rfl 34 rfl dX10_greened_33 ?_
          refine g_iload_n 1 rfl rfl 35 rfl dX10_greened_34 ?_
          refine g_iconst 4 36 rfl dX10_greened_35 (by decide) ?_
          refine p_cVI 0 [.int p0, .int 4] [] (c_X10_of l hO hX M p0 4) dX10_greened_36 uv_X10_78 rfl yk_X10_of ⟨by decide, by decide⟩ (lm_0 hX).1 (lm_0 hX).2 rfl (Nat.le_of_ble_eq_true rfl) rfl 39 rfl ?_
          intro x6
          refine g_if_lt 44 (by decide) 42 rfl dX10_greened_39 ?_ ?_
          · refine g_aload_n 0 rfl rfl 45 rfl dX10_greened_44 ?_
            refine g_iload_n 1 rfl rfl 46 rfl dX10_greened_45 ?_
            refine g_iload_n 2 rfl rfl 47 rfl dX10_greened_46 ?_
            refine g_iload_n 3 rfl rfl 48 rfl dX10_greened_47 ?_
            refine g_iload 4 rfl 50 rfl dX10_greened_48 ?_
            refine g_iload 5 rfl 52 rfl dX10_greened_50 ?_
            refine g_cVI 0 [.int p0, .int p1, .int p2, .int p3, .int p4] [] (c_X10_hindered l hO hX M p0 p1 p2 p3 p4) dX10_greened_52 uv_X10_171 rfl yk_X10_hindered ⟨by decide, by decide⟩ (lm_0 hX).1 (lm_0 hX).2 rfl (Nat.le_of_ble_eq_true rfl) rfl 55 rfl ?_
            intro x7 M8
            refine g_istoreA [(6, .int x7), (0, .ref (wA Ω 0)), (1, .int p0), (2, .int p1), (3, .int p2), (4, .int p3), (5, .int p4)] 57 rfl dX10_greened_55 (by decide) rfl ?_
            refine g_iload 0 rfl 59 rfl dX10_greened_57 ?_
            refine g_if_le 70 (by decide) 62 rfl dX10_greened_59 ?_ ?_
            · refine g_aload_n 1 rfl rfl 71 rfl dX10_greened_70 ?_
              refine g_aload_n 1 rfl rfl 72 rfl dX10_greened_71 ?_
              refine g_iload_n 2 rfl rfl 73 rfl dX10_greened_72 ?_
              refine g_iload_n 3 rfl rfl 74 rfl dX10_greened_73 ?_
              refine p_cVI 0 [.int p0, .int p1] [.ref (wA Ω 0)] (c_X10_greens l hO hX M8 p0 p1) dX10_greened_74 uv_X10_174 rfl yk_X10_greens ⟨by decide, by decide⟩ (lm_0 hX).1 (lm_0 hX).2 rfl (Nat.le_of_ble_eq_true rfl) rfl 77 rfl ?_
              intro x9
              refine w_put (lm_0 hX) rfl in_X10 21 (by decide) wf_X10_102 tyX10 tyX10_ok nmX10 rfl rfl rfl rfl 80 rfl dX10_greened_77 ?_
              intro M10
              refine g_iconst 0 81 rfl dX10_greened_80 (by decide) ?_
              exact g_iret rfl dX10_greened_81
            · refine g_aload_n 1 rfl rfl 63 rfl dX10_greened_62 ?_
              refine g_iload 0 rfl 65 rfl dX10_greened_63 ?_
              refine w_put (lm_0 hX) rfl in_X10 11 (by decide) wf_X10_50 tyX10 tyX10_ok nmX10 rfl rfl rfl rfl 68 rfl dX10_greened_65 ?_
              intro M11
              refine g_iconst 4 69 rfl dX10_greened_68 (by decide) ?_
              exact g_iret rfl dX10_greened_69
          · refine g_iconst 3 43 rfl dX10_greened_42 (by decide) ?_
            exact g_iret rfl dX10_greened_43
def fX10_green (M : Mem) (p0 : Int32) (p1 : Int32) (p2 : Int32) (p3 : Int32) (p4 : Int32) : Option (Int32 × Mem) := cl (fX10_tries M) (fun u1 M2 => cl (fX10_greened M2 p0 p1 p2 p3 p4) (fun x3 M4 => cl (fX10_ends M4 x3) (fun x5 M6 => some (x5, M6))))
set_option maxRecDepth 100000 in
set_option maxHeartbeats 4000000 in
theorem c_X10_green {Ω : Wd} (l : Launch) (hO : OkW Ω) (hX : LM Ω)  (M : Mem) (p0 : Int32) (p1 : Int32) (p2 : Int32) (p3 : Int32) (p4 : Int32) : ∀ r, fX10_green M p0 p1 p2 p3 p4 = some r → Ct l yX10_green (.code yX10_green cX10_green 6 (some .int)) 9 217 Ω [.ref (wA Ω 0), .int p0, .int p1, .int p2, .int p3, .int p4] M (cvI r) := by
  refine ofG [(0, .ref (wA Ω 0)), (1, .int p0), (2, .int p1), (3, .int p2), (4, .int p3), (5, .int p4)] hO (by decide) rfl (Nat.le_of_ble_eq_true rfl) rfl ?_
  intro p e s m args below meth c
  unfold fX10_green
  refine g_aload_n 0 rfl rfl 1 rfl dX10_green_0 ?_
  refine g_cVV 0 [] [] (c_X10_tries l hO hX M) dX10_green_1 uv_X10_109 rfl yk_X10_tries ⟨by decide, by decide⟩ (lm_0 hX).1 (lm_0 hX).2 rfl (Nat.le_of_ble_eq_true rfl) rfl 4 rfl ?_
  intro u1 M2
  refine g_aload_n 0 rfl rfl 5 rfl dX10_green_4 ?_
  refine g_aload_n 0 rfl rfl 6 rfl dX10_green_5 ?_
  refine g_iload_n 1 rfl rfl 7 rfl dX10_green_6 ?_
  refine g_iload_n 2 rfl rfl 8 rfl dX10_green_7 ?_
  refine g_iload_n 3 rfl rfl 9 rfl dX10_green_8 ?_
  refine g_iload 4 rfl 11 rfl dX10_green_9 ?_
  refine g_iload 5 rfl 13 rfl dX10_green_11 ?_
  refine g_cVI 0 [.int p0, .int p1, .int p2, .int p3, .int p4] [.ref (wA Ω 0)] (c_X10_greened l hO hX M2 p0 p1 p2 p3 p4) dX10_green_13 uv_X10_177 rfl yk_X10_greened ⟨by decide, by decide⟩ (lm_0 hX).1 (lm_0 hX).2 rfl (Nat.le_of_ble_eq_true rfl) rfl 16 rfl ?_
  intro x3 M4
  refine g_cVI 0 [.int x3] [] (c_X10_ends l hO hX M4 x3) dX10_green_16 uv_X10_115 rfl yk_X10_ends ⟨by decide, by decide⟩ (lm_0 hX).1 (lm_0 hX).2 rfl (Nat.le_of_ble_eq_true rfl) rfl 19 rfl ?_
  intro x5 M6
  exact g_iret rfl dX10_green_19
def fX10_hinders (M : Mem) (p0 : Int32) (p1 : Int32) (p2 : Int32) (p3 : Int32) (p4 : Int32) : Option (Int32 × Mem) := bnd (mset M 0 0 0) (fun M1 => clp (fX10_isPlan M1 p0 p1) (fun x2 => jn (fun (a3 : Unit) => cl (fX10_raises M1 1) (fun x5 M6 => some (x5, M6))) (fun k4 => if x2 = 0 then (k4 ()) else (clp (fX10_isGroup M1 p0 p2) (fun x7 => if x7 = 0 then (k4 ()) else (clp (fX10_isGreen M1 p3 p4) (fun x8 => if x8 = 0 then (cl (fX10_raises M1 2) (fun x15 M16 => some (x15, M16))) else (clp (fX10_first M1 p0 p1 p2) (fun x9 => clp (fX10_length M1 p0 p1 p2) (fun x10 => cl (fX10_hindered M1 p0 p1 p2 p3 p4) (fun x11 M12 => cl (fX10_puts M12 p0 p1 p2 x9 x10) (fun u13 M14 => some (x11, M14)))))))))))))
set_option maxRecDepth 100000 in
set_option maxHeartbeats 4000000 in
theorem c_X10_hinders {Ω : Wd} (l : Launch) (hO : OkW Ω) (hX : LM Ω)  (M : Mem) (p0 : Int32) (p1 : Int32) (p2 : Int32) (p3 : Int32) (p4 : Int32) : ∀ r, fX10_hinders M p0 p1 p2 p3 p4 = some r → Ct l yX10_hinders (.code yX10_hinders cX10_hinders 9 (some .int)) 8 191 Ω [.ref (wA Ω 0), .int p0, .int p1, .int p2, .int p3, .int p4] M (cvI r) := by
  refine ofG [(0, .ref (wA Ω 0)), (1, .int p0), (2, .int p1), (3, .int p2), (4, .int p3), (5, .int p4)] hO (by decide) rfl (Nat.le_of_ble_eq_true rfl) rfl ?_
  intro p e s m args below meth c
  unfold fX10_hinders
  refine g_aload_n 0 rfl rfl 1 rfl dX10_hinders_0 ?_
  refine g_iconst 0 2 rfl dX10_hinders_1 (by decide) ?_
  refine w_put (lm_0 hX) rfl in_X10 0 (by decide) wf_X10_47 tyX10 tyX10_ok nmX10 rfl rfl rfl rfl 5 rfl dX10_hinders_2 ?_
  intro M1
  refine g_aload_n 0 rfl rfl 6 rfl dX10_hinders_5 ?_
  refine g_iload_n 1 rfl rfl 7 rfl dX10_hinders_6 ?_
  refine g_iload_n 2 rfl rfl 8 rfl dX10_hinders_7 ?_
  refine p_cVI 0 [.int p0, .int p1] [] (c_X10_isPlan l hO hX M1 p0 p1) dX10_hinders_8 uv_X10_165 rfl yk_X10_isPlan ⟨by decide, by decide⟩ (lm_0 hX).1 (lm_0 hX).2 rfl (Nat.le_of_ble_eq_true rfl) rfl 11 rfl ?_
  intro x2
  refine g_join 23 (fun a3 => [(0, .ref (wA Ω 0))]) (fun a3 => []) (fun a3 => M1) ?_ ?_
  · intro a3
    refine g_aload_n 0 rfl rfl 24 rfl dX10_hinders_23 ?_
    refine g_iconst 1 25 rfl dX10_hinders_24 (by decide) ?_
    refine g_cVI 0 [.int 1] [] (c_X10_raises l hO hX M1 1) dX10_hinders_25 uv_X10_53 rfl yk_X10_raises ⟨by decide, by decide⟩ (lm_0 hX).1 (lm_0 hX).2 rfl (Nat.le_of_ble_eq_true rfl) rfl 28 rfl ?_
    intro x5 M6
    exact g_iret rfl dX10_hinders_28
  · intro k4 hk4
    refine g_if_eq 23 (by decide) 14 rfl dX10_hinders_11 ?_ ?_
    · refine g_sub [(0, .ref (wA Ω 0))] [0] rfl ?_
      exact hk4 ()
    · refine g_aload_n 0 rfl rfl 15 rfl dX10_hinders_14 ?_
      refine g_iload_n 1 rfl rfl 16 rfl dX10_hinders_15 ?_
      refine g_iload_n 3 rfl rfl 17 rfl dX10_hinders_16 ?_
      refine p_cVI 0 [.int p0, .int p2] [] (c_X10_isGroup l hO hX M1 p0 p2) dX10_hinders_17 uv_X10_105 rfl yk_X10_isGroup ⟨by decide, by decide⟩ (lm_0 hX).1 (lm_0 hX).2 rfl (Nat.le_of_ble_eq_true rfl) rfl 20 rfl ?_
      intro x7
      refine g_if_ne 29 (by decide) 23 rfl dX10_hinders_20 ?_ ?_
      · refine g_sub [(0, .ref (wA Ω 0))] [0] rfl ?_
        exact hk4 ()
      · refine g_aload_n 0 rfl rfl 30 rfl dX10_hinders_29 ?_
        refine g_iload 4 rfl 32 rfl dX10_hinders_30 ?_
        refine g_iload 5 rfl 34 rfl dX10_hinders_32 ?_
        refine p_cVI 0 [.int p3, .int p4] [] (c_X10_isGreen l hO hX M1 p3 p4) dX10_hinders_34 uv_X10_168 rfl yk_X10_isGreen ⟨by decide, by decide⟩ (lm_0 hX).1 (lm_0 hX).2 rfl (Nat.le_of_ble_eq_true rfl) rfl 37 rfl ?_
        intro x8
        refine g_if_ne 46 (by decide) 40 rfl dX10_hinders_37 ?_ ?_
        · refine g_aload_n 0 rfl rfl 41 rfl dX10_hinders_40 ?_
          refine g_iconst 2 42 rfl dX10_hinders_41 (by decide) ?_
          refine g_cVI 0 [.int 2] [] (c_X10_raises l hO hX M1 2) dX10_hinders_42 uv_X10_53 rfl yk_X10_raises ⟨by decide, by decide⟩ (lm_0 hX).1 (lm_0 hX).2 rfl (Nat.le_of_ble_eq_true rfl) rfl 45 rfl ?_
          intro x15 M16
          exact g_iret rfl dX10_hinders_45
        · refine g_aload_n 0 rfl rfl 47 rfl dX10_hinders_46 ?_
          refine g_iload_n 1 rfl rfl 48 rfl dX10_hinders_47 ?_
          refine g_iload_n 2 rfl rfl 49 rfl dX10_hinders_48 ?_
          refine g_iload_n 3 rfl rfl 50 rfl dX10_hinders_49 ?_
          refine p_cVI 0 [.int p0, .int p1, .int p2] [] (c_X10_first l hO hX M1 p0 p1 p2) dX10_hinders_50 uv_X10_93 rfl yk_X10_first ⟨by decide, by decide⟩ (lm_0 hX).1 (lm_0 hX).2 rfl (Nat.le_of_ble_eq_true rfl) rfl 53 rfl ?_
          intro x9
          refine g_istoreA [(6, .int x9), (0, .ref (wA Ω 0)), (1, .int p0), (2, .int p1), (3, .int p2), (4, .int p3), (5, .int p4)] 55 rfl dX10_hinders_53 (by decide) rfl ?_
          refine g_aload_n 1 rfl rfl 56 rfl dX10_hinders_55 ?_
          refine g_iload_n 2 rfl rfl 57 rfl dX10_hinders_56 ?_
          refine g_iload_n 3 rfl rfl 58 rfl dX10_hinders_57 ?_
          refine g_iload_n 4 rfl rfl 59 rfl dX10_hinders_58 ?_
          refine p_cVI 0 [.int p0, .int p1, .int p2] [] (c_X10_length l hO hX M1 p0 p1 p2) dX10_hinders_59 uv_X10_96 rfl yk_X10_length ⟨by decide, by decide⟩ (lm_0 hX).1 (lm_0 hX).2 rfl (Nat.le_of_ble_eq_true rfl) rfl 62 rfl ?_
          intro x10
          refine g_istoreA [(7, .int x10), (6, .int x9), (0, .ref (wA Ω 0)), (1, .int p0), (2, .int p1), (3, .int p2), (4, .int p3), (5, .int p4)] 64 rfl dX10_hinders_62 (by decide) rfl ?_
          refine g_aload_n 2 rfl rfl 65 rfl dX10_hinders_64 ?_
          refine g_iload_n 3 rfl rfl 66 rfl dX10_hinders_65 ?_
          refine g_iload_n 4 rfl rfl 67 rfl dX10_hinders_66 ?_
          refine g_iload_n 5 rfl rfl 68 rfl dX10_hinders_67 ?_
          refine g_iload 6 rfl 70 rfl dX10_hinders_68 ?_
          refine g_iload 7 rfl 72 rfl dX10_hinders_70 ?_
          refine g_cVI 0 [.int p0, .int p1, .int p2, .int p3, .int p4] [] (c_X10_hindered l hO hX M1 p0 p1 p2 p3 p4) dX10_hinders_72 uv_X10_171 rfl yk_X10_hindered ⟨by decide, by decide⟩ (lm_0 hX).1 (lm_0 hX).2 rfl (Nat.le_of_ble_eq_true rfl) rfl 75 rfl ?_
          intro x11 M12
          refine g_istoreA [(8, .int x11), (7, .int x10), (6, .int x9), (0, .ref (wA Ω 0)), (1, .int p0), (2, .int p1), (3, .int p2), (4, .int p3), (5, .int p4)] 77 rfl dX10_hinders_75 (by decide) rfl ?_
          refine g_aload_n 3 rfl rfl 78 rfl dX10_hinders_77 ?_
          refine g_iload_n 4 rfl rfl 79 rfl dX10_hinders_78 ?_
          refine g_iload_n 5 rfl rfl 80 rfl dX10_hinders_79 ?_
          refine g_iload_n 6 rfl rfl 81 rfl dX10_hinders_80 ?_
          refine g_iload 2 rfl 83 rfl dX10_hinders_81 ?_
          refine g_iload 1 rfl 85 rfl dX10_hinders_83 ?_
          refine g_cVV 0 [.int p0, .int p1, .int p2, .int x9, .int x10] [] (c_X10_puts l hO hX M12 p0 p1 p2 x9 x10) dX10_hinders_85 uv_X10_161 rfl yk_X10_puts ⟨by decide, by decide⟩ (lm_0 hX).1 (lm_0 hX).2 rfl (Nat.le_of_ble_eq_true rfl) rfl 88 rfl ?_
          intro u13 M14
          refine g_iload 0 rfl 90 rfl dX10_hinders_88 ?_
          exact g_iret rfl dX10_hinders_90
def fX10_make_L1 (k26 : Mem → Option (Int32 × Mem)) (k30 : (Int32 × Mem) → Option (Int32 × Mem)) (a29 : Int32 × Mem) : Option (Int32 × Mem) := if 490 ≤ a29.1 then (k26 a29.2) else (grd (inb a29.1 490) (grd (inb a29.1 490) (bnd (mset a29.2 1 a29.1.toNatClampNeg (a29.2 4 a29.1.toNatClampNeg)) (fun M31 => bnd (a29.1 + 1) (fun x32 => k30 (x32, M31))))))
def fX10_make_L2 (p0 : Int32) (p1 : Int32) (x4 : Int32) (a17 : Mem) (k24 : Unit → Option (Int32 × Mem)) (a33 : Int32) (k36 : Unit → Option (Int32 × Mem)) (k39 : Int32 → Option (Int32 × Mem)) (a38 : Int32) : Option (Int32 × Mem) := if x4 ≤ a38 then (k36 ()) else (clp (fX10_bars a17 p0 p1 a33 a38 4) (fun x40 => clp (fX10_bars a17 p0 p1 a33 a38 5) (fun x41 => if x40 + x41 = 0 then (bnd (a38 + 1) (fun x42 => k39 x42)) else (k24 ()))))
def fX10_make_L3 (p0 : Int32) (p1 : Int32) (x4 : Int32) (a17 : Mem) (k20 : Unit → Option (Int32 × Mem)) (k24 : Unit → Option (Int32 × Mem)) (k34 : Int32 → Option (Int32 × Mem)) (a33 : Int32) : Option (Int32 × Mem) := if x4 ≤ a33 then (k20 ()) else (jn (fun (a35 : Unit) => bnd (a33 + 1) (fun x37 => k34 x37)) (fun k36 => lp (fX10_make_L2 p0 p1 x4 a17 k24 a33 k36) FU 0))
def fX10_make_L4 (p0 : Int32) (p1 : Int32) (x4 : Int32) (a43 : Int32 × Int32 × Mem) (k46 : Mem → Option (Int32 × Mem)) (k50 : (Int32 × Mem) → Option (Int32 × Mem)) (a49 : Int32 × Mem) : Option (Int32 × Mem) := if x4 ≤ a49.1 then (k46 a49.2) else (grd (inb a49.1 6) (jn (fun (a51 : Mem) => bnd (a49.1 + 1) (fun x53 => k50 (x53, a51))) (fun k52 => if a49.2 8 a49.1.toNatClampNeg = a43.2.1 then (grd (inb a43.2.1 6) (cl (fX10_puts a49.2 p0 p1 a49.1 a43.1 (a49.2 9 a43.2.1.toNatClampNeg)) (fun u54 M55 => k52 M55))) else (k52 a49.2))))
def fX10_make_L5 (p0 : Int32) (p1 : Int32) (x4 : Int32) (x10 : Int32) (k18 : Mem → Option (Int32 × Mem)) (k44 : (Int32 × Int32 × Mem) → Option (Int32 × Mem)) (a43 : Int32 × Int32 × Mem) : Option (Int32 × Mem) := if x10 ≤ a43.2.1 then (k18 a43.2.2) else (jn (fun (a45 : Mem) => grd (inb a43.2.1 6) (grd (inb a43.2.1 6) (bnd (a43.1 + ((a45 9 a43.2.1.toNatClampNeg) + (a45 10 a43.2.1.toNatClampNeg))) (fun x47 => bnd (a43.2.1 + 1) (fun x48 => k44 (x47, x48, a45)))))) (fun k46 => lp (fX10_make_L4 p0 p1 x4 a43 k46) FU (0, a43.2.2)))
def fX10_make_L6 (x10 : Int32) (k59 : (Int32 × Int32 × Mem) → Option (Int32 × Mem)) (k61 : (Int32 × Int32 × Int32 × Mem) → Option (Int32 × Mem)) (a60 : Int32 × Int32 × Int32 × Mem) : Option (Int32 × Mem) := if x10 ≤ a60.2.2.1 then (k59 (a60.1, a60.2.1, a60.2.2.2)) else (if a60.1 ≤ 0 then (k59 (a60.1, a60.2.1, a60.2.2.2)) else (grd (inb a60.2.2.1 6) (grd (inb 0 490) (jn (fun (a62 : Int32 × Int32 × Mem) => bnd (a60.2.2.1 + 1) (fun x64 => k61 (a62.1, a62.2.1, x64, a62.2.2))) (fun k63 => if a60.2.2.2 9 a60.2.2.1.toNatClampNeg < (a60.2.2.2 1 (0 : Int32).toNatClampNeg) - 5 then (grd (inb a60.2.2.1 6) (grd (inb a60.2.2.1 6) (bnd (mset a60.2.2.2 9 a60.2.2.1.toNatClampNeg ((a60.2.2.2 9 a60.2.2.1.toNatClampNeg) + 1)) (fun M65 => bnd (a60.1 + (-1)) (fun x66 => k63 (x66, 1, M65)))))) else (k63 (a60.1, a60.2.1, a60.2.2.2)))))))
def fX10_make_L7 (x10 : Int32) (k16 : Mem → Option (Int32 × Mem)) (k57 : (Int32 × Int32 × Mem) → Option (Int32 × Mem)) (a56 : Int32 × Int32 × Mem) : Option (Int32 × Mem) := if a56.2.1 = 0 then (k16 a56.2.2) else (if a56.1 ≤ 0 then (k16 a56.2.2) else (jn (fun (a58 : Int32 × Int32 × Mem) => k57 (a58.1, a58.2.1, a58.2.2)) (fun k59 => lp (fX10_make_L6 x10 k59) FU (a56.1, 0, 0, a56.2.2))))
def fX10_make_L8 (p0 : Int32) (x4 : Int32) (a69 : Int32 × Int32 × Mem) (x73 : Int32) (a78 : Int32 × Mem) (k81 : Mem → Option (Int32 × Mem)) (k87 : (Int32 × Mem) → Option (Int32 × Mem)) (a86 : Int32 × Mem) : Option (Int32 × Mem) := if x4 ≤ a86.1 then (k81 a86.2) else (grd (inb a86.1 6) (jn (fun (a88 : Mem) => bnd (a86.1 + 1) (fun x90 => k87 (x90, a88))) (fun k89 => if a86.2 8 a86.1.toNatClampNeg = x73 then (grd (inb a69.2.1 6) (clp (fX10_clear a86.2 p0 a78.1 a86.1) (fun x91 => clp (fJ9_max_7cf53 a86.2 (a86.2 10 a69.2.1.toNatClampNeg) x91) (fun x92 => grd (inb a69.2.1 6) (bnd (mset a86.2 10 a69.2.1.toNatClampNeg x92) (fun M93 => k89 M93)))))) else (k89 a86.2))))
def fX10_make_L9 (p0 : Int32) (x4 : Int32) (a69 : Int32 × Int32 × Mem) (x73 : Int32) (k75 : Mem → Option (Int32 × Mem)) (k79 : (Int32 × Mem) → Option (Int32 × Mem)) (a78 : Int32 × Mem) : Option (Int32 × Mem) := if x4 ≤ a78.1 then (k75 a78.2) else (grd (inb a78.1 6) (jn (fun (a80 : Mem) => bnd (a78.1 + 1) (fun x82 => k79 (x82, a80))) (fun k81 => if a78.2 8 a78.1.toNatClampNeg = a69.2.1 then (grd (inb a69.2.1 6) (clp (fX10_groupOf a78.2 p0 a78.1 1) (fun x83 => clp (fJ9_max_7cf53 a78.2 (a78.2 9 a69.2.1.toNatClampNeg) x83) (fun x84 => grd (inb a69.2.1 6) (bnd (mset a78.2 9 a69.2.1.toNatClampNeg x84) (fun M85 => lp (fX10_make_L8 p0 x4 a69 x73 a78 k81) FU (0, M85))))))) else (k81 a78.2))))
def fX10_make_L10 (p0 : Int32) (x4 : Int32) (x10 : Int32) (k14 : (Int32 × Mem) → Option (Int32 × Mem)) (k70 : (Int32 × Int32 × Mem) → Option (Int32 × Mem)) (a69 : Int32 × Int32 × Mem) : Option (Int32 × Mem) := if x10 ≤ a69.2.1 then (k14 (a69.1, a69.2.2)) else (grd (inb a69.2.1 6) (bnd (mset a69.2.2 9 a69.2.1.toNatClampNeg 0) (fun M71 => grd (inb a69.2.1 6) (bnd (mset M71 10 a69.2.1.toNatClampNeg 0) (fun M72 => grd (nz x10) (bnd ((a69.2.1 + 1) - (a69.2.1 + 1) / x10 * x10) (fun x73 => jn (fun (a74 : Mem) => grd (inb a69.2.1 6) (grd (inb a69.2.1 6) (bnd (a69.1 - ((a74 9 a69.2.1.toNatClampNeg) + (a74 10 a69.2.1.toNatClampNeg))) (fun x76 => bnd (a69.2.1 + 1) (fun x77 => k70 (x76, x77, a74)))))) (fun k75 => lp (fX10_make_L9 p0 x4 a69 x73 k75) FU (0, M72)))))))))
def fX10_make (M : Mem) (p0 : Int32) (p1 : Int32) : Option (Int32 × Mem) := cl (fX10_tries M) (fun u1 M2 => clp (fX10_isPlan M2 p0 p1) (fun x3 => if x3 = 0 then (cl (fX10_raises M2 1) (fun x94 M95 => some (x94, M95))) else (clp (fX10_of M2 p0 2) (fun x4 => jn (fun (a5 : Unit) => cl (fX10_raises M2 2) (fun x7 M8 => some (x7, M8))) (fun k6 => if x4 = 0 then (k6 ()) else (clp (fX10_of M2 p0 4) (fun x9 => if x9 < 0 then (cl (fX10_phases M2 p0) (fun x10 M11 => grd (inb 0 490) (bnd (M11 1 (0 : Int32).toNatClampNeg) (fun x12 => jn (fun (a13 : Int32 × Mem) => if 0 ≤ a13.1 then (jn (fun (a15 : Mem) => jn (fun (a17 : Mem) => jn (fun (a19 : Unit) => cl (fX10_keeps a17) (fun u21 M22 => some (x10, M22))) (fun k20 => jn (fun (a23 : Unit) => jn (fun (a25 : Mem) => cl (fX10_refuses a25 7 3) (fun x27 M28 => some (x27, M28))) (fun k26 => lp (fX10_make_L1 k26) FU (0, a17))) (fun k24 => lp (fX10_make_L3 p0 p1 x4 a17 k20 k24) FU 0))) (fun k18 => lp (fX10_make_L5 p0 p1 x4 x10 k18) FU (0, 0, a15))) (fun k16 => lp (fX10_make_L7 x10 k16) FU (a13.1, 1, a13.2))) else (cl (fX10_refuses a13.2 6 3) (fun x67 M68 => some (x67, M68)))) (fun k14 => lp (fX10_make_L10 p0 x4 x10 k14) FU (x12, 0, M11)))))) else (k6 ()))))))))
set_option maxRecDepth 100000 in
set_option maxHeartbeats 4000000 in
theorem c_X10_make {Ω : Wd} (l : Launch) (hO : OkW Ω) (hX : LM Ω)  (M : Mem) (p0 : Int32) (p1 : Int32) : ∀ r, fX10_make M p0 p1 = some r → Ct l yX10_make (.code yX10_make cX10_make 11 (some .int)) 12 307 Ω [.ref (wA Ω 0), .int p0, .int p1] M (cvI r) := by
  refine ofG [(0, .ref (wA Ω 0)), (1, .int p0), (2, .int p1)] hO (by decide) rfl (Nat.le_of_ble_eq_true rfl) rfl ?_
  intro p e s m args below meth c
  unfold fX10_make
  refine g_aload_n 0 rfl rfl 1 rfl dX10_make_0 ?_
  refine g_cVV 0 [] [] (c_X10_tries l hO hX M) dX10_make_1 uv_X10_109 rfl yk_X10_tries ⟨by decide, by decide⟩ (lm_0 hX).1 (lm_0 hX).2 rfl (Nat.le_of_ble_eq_true rfl) rfl 4 rfl ?_
  intro u1 M2
  refine g_aload_n 0 rfl rfl 5 rfl dX10_make_4 ?_
  refine g_iload_n 1 rfl rfl 6 rfl dX10_make_5 ?_
  refine g_iload_n 2 rfl rfl 7 rfl dX10_make_6 ?_
  refine p_cVI 0 [.int p0, .int p1] [] (c_X10_isPlan l hO hX M2 p0 p1) dX10_make_7 uv_X10_165 rfl yk_X10_isPlan ⟨by decide, by decide⟩ (lm_0 hX).1 (lm_0 hX).2 rfl (Nat.le_of_ble_eq_true rfl) rfl 10 rfl ?_
  intro x3
  refine g_if_ne 19 (by decide) 13 rfl dX10_make_10 ?_ ?_
  · refine g_aload_n 0 rfl rfl 14 rfl dX10_make_13 ?_
    refine g_iconst 1 15 rfl dX10_make_14 (by decide) ?_
    refine g_cVI 0 [.int 1] [] (c_X10_raises l hO hX M2 1) dX10_make_15 uv_X10_53 rfl yk_X10_raises ⟨by decide, by decide⟩ (lm_0 hX).1 (lm_0 hX).2 rfl (Nat.le_of_ble_eq_true rfl) rfl 18 rfl ?_
    intro x94 M95
    exact g_iret rfl dX10_make_18
  · refine g_aload_n 0 rfl rfl 20 rfl dX10_make_19 ?_
    refine g_iload_n 1 rfl rfl 21 rfl dX10_make_20 ?_
    refine g_iconst 2 22 rfl dX10_make_21 (by decide) ?_
    refine p_cVI 0 [.int p0, .int 2] [] (c_X10_of l hO hX M2 p0 2) dX10_make_22 uv_X10_78 rfl yk_X10_of ⟨by decide, by decide⟩ (lm_0 hX).1 (lm_0 hX).2 rfl (Nat.le_of_ble_eq_true rfl) rfl 25 rfl ?_
    intro x4
    refine g_istore_nA [(3, .int x4), (0, .ref (wA Ω 0)), (1, .int p0), (2, .int p1)] rfl 26 rfl dX10_make_25 (by decide) rfl ?_
    refine g_iload_n 0 rfl rfl 27 rfl dX10_make_26 ?_
    refine g_join 39 (fun a5 => [(0, .ref (wA Ω 0))]) (fun a5 => []) (fun a5 => M2) ?_ ?_
    · intro a5
      refine g_aload_n 0 rfl rfl 40 rfl dX10_make_39 ?_
      refine g_iconst 2 41 rfl dX10_make_40 (by decide) ?_
      refine g_cVI 0 [.int 2] [] (c_X10_raises l hO hX M2 2) dX10_make_41 uv_X10_53 rfl yk_X10_raises ⟨by decide, by decide⟩ (lm_0 hX).1 (lm_0 hX).2 rfl (Nat.le_of_ble_eq_true rfl) rfl 44 rfl ?_
      intro x7 M8
      exact g_iret rfl dX10_make_44
    · intro k6 hk6
      refine g_if_eq 39 (by decide) 30 rfl dX10_make_27 ?_ ?_
      · refine g_sub [(0, .ref (wA Ω 0))] [1] rfl ?_
        exact hk6 ()
      · refine g_aload_n 1 rfl rfl 31 rfl dX10_make_30 ?_
        refine g_iload_n 2 rfl rfl 32 rfl dX10_make_31 ?_
        refine g_iconst 4 33 rfl dX10_make_32 (by decide) ?_
        refine p_cVI 0 [.int p0, .int 4] [] (c_X10_of l hO hX M2 p0 4) dX10_make_33 uv_X10_78 rfl yk_X10_of ⟨by decide, by decide⟩ (lm_0 hX).1 (lm_0 hX).2 rfl (Nat.le_of_ble_eq_true rfl) rfl 36 rfl ?_
        intro x9
        refine g_if_lt 45 (by decide) 39 rfl dX10_make_36 ?_ ?_
        · refine g_aload_n 1 rfl rfl 46 rfl dX10_make_45 ?_
          refine g_iload_n 2 rfl rfl 47 rfl dX10_make_46 ?_
          refine g_cVI 0 [.int p0] [] (c_X10_phases l hO hX M2 p0) dX10_make_47 uv_X10_182 rfl yk_X10_phases ⟨by decide, by decide⟩ (lm_0 hX).1 (lm_0 hX).2 rfl (Nat.le_of_ble_eq_true rfl) rfl 50 rfl ?_
          intro x10 M11
          refine g_istoreA [(4, .int x10), (3, .int x4), (0, .ref (wA Ω 0)), (1, .int p0), (2, .int p1)] 52 rfl dX10_make_50 (by decide) rfl ?_
          refine g_aload_n 2 rfl rfl 53 rfl dX10_make_52 ?_
          refine w_getR (lm_0 hX) rfl in_X10 1 (by decide) wf_X10_9 1 rfl 56 rfl dX10_make_53 ?_
          refine g_iconst 0 57 rfl dX10_make_56 (by decide) ?_
          refine w_iald (lm_1 hX) 58 rfl dX10_make_57 ?_
          refine g_istore (fun x12 => [(5, .int x12), (4, .int x10), (3, .int x4), (0, .ref (wA Ω 0)), (1, .int p0), (2, .int p1)]) 60 rfl dX10_make_58 (by decide) (fun _ => rfl) ?_
          intro x12
          refine g_iconst 0 61 rfl dX10_make_60 (by decide) ?_
          refine g_istoreA [(6, .int 0), (5, .int x12), (4, .int x10), (3, .int x4), (0, .ref (wA Ω 0)), (1, .int p0), (2, .int p1)] 63 rfl dX10_make_61 (by decide) rfl ?_
          refine g_join 229 (fun a13 => [(0, .ref (wA Ω 0)), (1, .int p0), (2, .int p1), (3, .int x4), (4, .int x10), (5, .int a13.1)]) (fun a13 => []) (fun a13 => a13.2) ?_ ?_
          · intro a13
            refine g_iload 5 rfl 231 rfl dX10_make_229 ?_
            refine g_if_ge 242 (by decide) 234 rfl dX10_make_231 ?_ ?_
            · refine g_iconst 1 243 rfl dX10_make_242 (by decide) ?_
              refine g_istoreA [(6, .int 1), (0, .ref (wA Ω 0)), (1, .int p0), (2, .int p1), (3, .int x4), (4, .int x10), (5, .int a13.1)] 245 rfl dX10_make_243 (by decide) rfl ?_
              refine g_join 320 (fun a15 => [(0, .ref (wA Ω 0)), (1, .int p0), (2, .int p1), (3, .int x4), (4, .int x10)]) (fun a15 => []) (fun a15 => a15) ?_ ?_
              · intro a15
                refine g_iconst 0 321 rfl dX10_make_320 (by decide) ?_
                refine g_istoreA [(7, .int 0), (0, .ref (wA Ω 0)), (1, .int p0), (2, .int p1), (3, .int x4), (4, .int x10)] 323 rfl dX10_make_321 (by decide) rfl ?_
                refine g_iconst 0 324 rfl dX10_make_323 (by decide) ?_
                refine g_istoreA [(8, .int 0), (7, .int 0), (0, .ref (wA Ω 0)), (1, .int p0), (2, .int p1), (3, .int x4), (4, .int x10)] 326 rfl dX10_make_324 (by decide) rfl ?_
                refine g_join 403 (fun a17 => [(0, .ref (wA Ω 0)), (1, .int p0), (2, .int p1), (3, .int x4), (4, .int x10)]) (fun a17 => []) (fun a17 => a17) ?_ ?_
                · intro a17
                  refine g_iconst 0 404 rfl dX10_make_403 (by decide) ?_
                  refine g_istoreA [(8, .int 0), (0, .ref (wA Ω 0)), (1, .int p0), (2, .int p1), (3, .int x4), (4, .int x10)] 406 rfl dX10_make_404 (by decide) rfl ?_
                  refine g_join 501 (fun a19 => [(0, .ref (wA Ω 0)), (4, .int x10)]) (fun a19 => []) (fun a19 => a17) ?_ ?_
                  · intro a19
                    refine g_aload_n 0 rfl rfl 502 rfl dX10_make_501 ?_
                    refine g_cVV 0 [] [] (c_X10_keeps l hO hX a17) dX10_make_502 uv_X10_60 rfl yk_X10_keeps ⟨by decide, by decide⟩ (lm_0 hX).1 (lm_0 hX).2 rfl (Nat.le_of_ble_eq_true rfl) rfl 505 rfl ?_
                    intro u21 M22
                    refine g_iload 1 rfl 507 rfl dX10_make_505 ?_
                    exact g_iret rfl dX10_make_507
                  · intro k20 hk20
                    refine g_join 450 (fun a23 => [(0, .ref (wA Ω 0))]) (fun a23 => []) (fun a23 => a17) ?_ ?_
                    · intro a23
                      refine g_iconst 0 451 rfl dX10_make_450 (by decide) ?_
                      refine g_istoreA [(10, .int 0), (0, .ref (wA Ω 0))] 453 rfl dX10_make_451 (by decide) rfl ?_
                      refine g_join 481 (fun a25 => [(0, .ref (wA Ω 0))]) (fun a25 => []) (fun a25 => a25) ?_ ?_
                      · intro a25
                        refine g_aload_n 0 rfl rfl 482 rfl dX10_make_481 ?_
                        refine g_bipush 7 484 rfl dX10_make_482 (by decide) ?_
                        refine g_iconst 3 485 rfl dX10_make_484 (by decide) ?_
                        refine g_cVI 0 [.int 7, .int 3] [] (c_X10_refuses l hO hX a25 7 3) dX10_make_485 uv_X10_158 rfl yk_X10_refuses ⟨by decide, by decide⟩ (lm_0 hX).1 (lm_0 hX).2 rfl (Nat.le_of_ble_eq_true rfl) rfl 488 rfl ?_
                        intro x27 M28
                        exact g_iret rfl dX10_make_488
                      · intro k26 hk26
                        refine g_sub [(0, .ref (wA Ω 0)), (10, .int 0)] [1, 0] rfl ?_
                        refine g_loop 453 (fun a29 => [(0, .ref (wA Ω 0)), (10, .int a29.1)]) (fun _ => []) (fun a29 => a29.2) ?_ FU (0, a17)
                        intro k30 hk30 a29
                        unfold fX10_make_L1
                        refine g_iload 1 rfl 455 rfl dX10_make_453 ?_
                        refine g_sipush 490 458 rfl dX10_make_455 (by decide) ?_
                        refine g_icmp_ge 481 (by decide) 461 rfl dX10_make_458 ?_ ?_
                        · refine g_sub [(0, .ref (wA Ω 0))] [0] rfl ?_
                          exact hk26 a29.2
                        · refine g_aload_n 0 rfl rfl 462 rfl dX10_make_461 ?_
                          refine w_getR (lm_0 hX) rfl in_X10 1 (by decide) wf_X10_9 1 rfl 465 rfl dX10_make_462 ?_
                          refine g_iload 1 rfl 467 rfl dX10_make_465 ?_
                          refine g_aload_n 0 rfl rfl 468 rfl dX10_make_467 ?_
                          refine w_getR (lm_0 hX) rfl in_X10 6 (by decide) wf_X10_19 4 rfl 471 rfl dX10_make_468 ?_
                          refine g_iload 1 rfl 473 rfl dX10_make_471 ?_
                          refine w_iald (lm_4 hX) 474 rfl dX10_make_473 ?_
                          refine w_iast (lm_1 hX) 475 rfl dX10_make_474 ?_
                          intro M31
                          refine g_iinc 1 rfl 1 (by decide) (fun x32 => [(10, .int x32), (0, .ref (wA Ω 0))]) 478 rfl dX10_make_475 (by decide) (fun _ => rfl) ?_
                          intro x32
                          refine g_goto 453 (by decide) dX10_make_478 ?_
                          refine g_sub [(0, .ref (wA Ω 0)), (10, .int x32)] [1, 0] rfl ?_
                          exact hk30 (x32, M31)
                    · intro k24 hk24
                      refine g_sub [(0, .ref (wA Ω 0)), (1, .int p0), (2, .int p1), (3, .int x4), (4, .int x10), (8, .int 0)] [1, 2, 3, 4, 5, 0] rfl ?_
                      refine g_loop 406 (fun a33 => [(0, .ref (wA Ω 0)), (1, .int p0), (2, .int p1), (3, .int x4), (4, .int x10), (8, .int a33)]) (fun _ => []) (fun a33 => a17) ?_ FU 0
                      intro k34 hk34 a33
                      unfold fX10_make_L3
                      refine g_iload 5 rfl 408 rfl dX10_make_406 ?_
                      refine g_iload_n 3 rfl rfl 409 rfl dX10_make_408 ?_
                      refine g_icmp_ge 501 (by decide) 412 rfl dX10_make_409 ?_ ?_
                      · refine g_sub [(0, .ref (wA Ω 0)), (4, .int x10)] [0, 4] rfl ?_
                        exact hk20 ()
                      · refine g_iconst 0 413 rfl dX10_make_412 (by decide) ?_
                        refine g_istoreA [(9, .int 0), (0, .ref (wA Ω 0)), (1, .int p0), (2, .int p1), (3, .int x4), (4, .int x10), (8, .int a33)] 415 rfl dX10_make_413 (by decide) rfl ?_
                        refine g_join 495 (fun a35 => [(0, .ref (wA Ω 0)), (1, .int p0), (2, .int p1), (3, .int x4), (4, .int x10), (8, .int a33)]) (fun a35 => []) (fun a35 => a17) ?_ ?_
                        · intro a35
                          refine g_iinc 5 rfl 1 (by decide) (fun x37 => [(8, .int x37), (0, .ref (wA Ω 0)), (1, .int p0), (2, .int p1), (3, .int x4), (4, .int x10)]) 498 rfl dX10_make_495 (by decide) (fun _ => rfl) ?_
                          intro x37
                          refine g_goto 406 (by decide) dX10_make_498 ?_
                          refine g_sub [(0, .ref (wA Ω 0)), (1, .int p0), (2, .int p1), (3, .int x4), (4, .int x10), (8, .int x37)] [1, 2, 3, 4, 5, 0] rfl ?_
                          exact hk34 x37
                        · intro k36 hk36
                          refine g_sub [(0, .ref (wA Ω 0)), (1, .int p0), (2, .int p1), (3, .int x4), (4, .int x10), (8, .int a33), (9, .int 0)] [1, 2, 3, 4, 5, 6, 0] rfl ?_
                          refine g_loop 415 (fun a38 => [(0, .ref (wA Ω 0)), (1, .int p0), (2, .int p1), (3, .int x4), (4, .int x10), (8, .int a33), (9, .int a38)]) (fun _ => []) (fun a38 => a17) ?_ FU 0
                          intro k39 hk39 a38
                          unfold fX10_make_L2
                          refine g_iload 6 rfl 417 rfl dX10_make_415 ?_
                          refine g_iload_n 3 rfl rfl 418 rfl dX10_make_417 ?_
                          refine g_icmp_ge 495 (by decide) 421 rfl dX10_make_418 ?_ ?_
                          · refine g_sub [(0, .ref (wA Ω 0)), (1, .int p0), (2, .int p1), (3, .int x4), (4, .int x10), (8, .int a33)] [0, 1, 2, 3, 4, 5] rfl ?_
                            exact hk36 ()
                          · refine g_aload_n 0 rfl rfl 422 rfl dX10_make_421 ?_
                            refine g_iload_n 1 rfl rfl 423 rfl dX10_make_422 ?_
                            refine g_iload_n 2 rfl rfl 424 rfl dX10_make_423 ?_
                            refine g_iload 5 rfl 426 rfl dX10_make_424 ?_
                            refine g_iload 6 rfl 428 rfl dX10_make_426 ?_
                            refine g_iconst 4 429 rfl dX10_make_428 (by decide) ?_
                            refine p_cVI 0 [.int p0, .int p1, .int a33, .int a38, .int 4] [] (c_X10_bars l hO hX a17 p0 p1 a33 a38 4) dX10_make_429 uv_X10_147 rfl yk_X10_bars ⟨by decide, by decide⟩ (lm_0 hX).1 (lm_0 hX).2 rfl (Nat.le_of_ble_eq_true rfl) rfl 432 rfl ?_
                            intro x40
                            refine g_aload_n 0 rfl rfl 433 rfl dX10_make_432 ?_
                            refine g_iload_n 1 rfl rfl 434 rfl dX10_make_433 ?_
                            refine g_iload_n 2 rfl rfl 435 rfl dX10_make_434 ?_
                            refine g_iload 5 rfl 437 rfl dX10_make_435 ?_
                            refine g_iload 6 rfl 439 rfl dX10_make_437 ?_
                            refine g_iconst 5 440 rfl dX10_make_439 (by decide) ?_
                            refine p_cVI 0 [.int p0, .int p1, .int a33, .int a38, .int 5] [.int x40] (c_X10_bars l hO hX a17 p0 p1 a33 a38 5) dX10_make_440 uv_X10_147 rfl yk_X10_bars ⟨by decide, by decide⟩ (lm_0 hX).1 (lm_0 hX).2 rfl (Nat.le_of_ble_eq_true rfl) rfl 443 rfl ?_
                            intro x41
                            refine g_iadd 444 rfl dX10_make_443 ?_
                            refine g_if_ne 450 (by decide) 447 rfl dX10_make_444 ?_ ?_
                            · refine g_goto 489 (by decide) dX10_make_447 ?_
                              refine g_iinc 6 rfl 1 (by decide) (fun x42 => [(9, .int x42), (0, .ref (wA Ω 0)), (1, .int p0), (2, .int p1), (3, .int x4), (4, .int x10), (8, .int a33)]) 492 rfl dX10_make_489 (by decide) (fun _ => rfl) ?_
                              intro x42
                              refine g_goto 415 (by decide) dX10_make_492 ?_
                              refine g_sub [(0, .ref (wA Ω 0)), (1, .int p0), (2, .int p1), (3, .int x4), (4, .int x10), (8, .int a33), (9, .int x42)] [1, 2, 3, 4, 5, 6, 0] rfl ?_
                              exact hk39 x42
                            · refine g_sub [(0, .ref (wA Ω 0))] [0] rfl ?_
                              exact hk24 ()
                · intro k18 hk18
                  refine g_sub [(0, .ref (wA Ω 0)), (1, .int p0), (2, .int p1), (3, .int x4), (4, .int x10), (7, .int 0), (8, .int 0)] [2, 3, 4, 5, 6, 1, 0] rfl ?_
                  refine g_loop 326 (fun a43 => [(0, .ref (wA Ω 0)), (1, .int p0), (2, .int p1), (3, .int x4), (4, .int x10), (7, .int a43.1), (8, .int a43.2.1)]) (fun _ => []) (fun a43 => a43.2.2) ?_ FU (0, 0, a15)
                  intro k44 hk44 a43
                  unfold fX10_make_L5
                  refine g_iload 6 rfl 328 rfl dX10_make_326 ?_
                  refine g_iload 4 rfl 330 rfl dX10_make_328 ?_
                  refine g_icmp_ge 403 (by decide) 333 rfl dX10_make_330 ?_ ?_
                  · refine g_sub [(0, .ref (wA Ω 0)), (1, .int p0), (2, .int p1), (3, .int x4), (4, .int x10)] [0, 1, 2, 3, 4] rfl ?_
                    exact hk18 a43.2.2
                  · refine g_iconst 0 334 rfl dX10_make_333 (by decide) ?_
                    refine g_istoreA [(9, .int 0), (0, .ref (wA Ω 0)), (1, .int p0), (2, .int p1), (3, .int x4), (4, .int x10), (7, .int a43.1), (8, .int a43.2.1)] 336 rfl dX10_make_334 (by decide) rfl ?_
                    refine g_join 377 (fun a45 => [(0, .ref (wA Ω 0)), (1, .int p0), (2, .int p1), (3, .int x4), (4, .int x10), (7, .int a43.1), (8, .int a43.2.1)]) (fun a45 => []) (fun a45 => a45) ?_ ?_
                    · intro a45
                      refine g_iload 5 rfl 379 rfl dX10_make_377 ?_
                      refine g_aload_n 0 rfl rfl 380 rfl dX10_make_379 ?_
                      refine w_getR (lm_0 hX) rfl in_X10 16 (by decide) wf_X10_38 9 rfl 383 rfl dX10_make_380 ?_
                      refine g_iload 6 rfl 385 rfl dX10_make_383 ?_
                      refine w_iald (lm_9 hX) 386 rfl dX10_make_385 ?_
                      refine g_aload_n 0 rfl rfl 387 rfl dX10_make_386 ?_
                      refine w_getR (lm_0 hX) rfl in_X10 17 (by decide) wf_X10_41 10 rfl 390 rfl dX10_make_387 ?_
                      refine g_iload 6 rfl 392 rfl dX10_make_390 ?_
                      refine w_iald (lm_10 hX) 393 rfl dX10_make_392 ?_
                      refine g_iadd 394 rfl dX10_make_393 ?_
                      refine g_iadd 395 rfl dX10_make_394 ?_
                      refine g_istore (fun x47 => [(7, .int x47), (0, .ref (wA Ω 0)), (1, .int p0), (2, .int p1), (3, .int x4), (4, .int x10), (8, .int a43.2.1)]) 397 rfl dX10_make_395 (by decide) (fun _ => rfl) ?_
                      intro x47
                      refine g_iinc 6 rfl 1 (by decide) (fun x48 => [(8, .int x48), (7, .int x47), (0, .ref (wA Ω 0)), (1, .int p0), (2, .int p1), (3, .int x4), (4, .int x10)]) 400 rfl dX10_make_397 (by decide) (fun _ => rfl) ?_
                      intro x48
                      refine g_goto 326 (by decide) dX10_make_400 ?_
                      refine g_sub [(0, .ref (wA Ω 0)), (1, .int p0), (2, .int p1), (3, .int x4), (4, .int x10), (7, .int x47), (8, .int x48)] [2, 3, 4, 5, 6, 1, 0] rfl ?_
                      exact hk44 (x47, x48, a45)
                    · intro k46 hk46
                      refine g_sub [(0, .ref (wA Ω 0)), (1, .int p0), (2, .int p1), (3, .int x4), (4, .int x10), (7, .int a43.1), (8, .int a43.2.1), (9, .int 0)] [1, 2, 3, 4, 5, 6, 7, 0] rfl ?_
                      refine g_loop 336 (fun a49 => [(0, .ref (wA Ω 0)), (1, .int p0), (2, .int p1), (3, .int x4), (4, .int x10), (7, .int a43.1), (8, .int a43.2.1), (9, .int a49.1)]) (fun _ => []) (fun a49 => a49.2) ?_ FU (0, a43.2.2)
                      intro k50 hk50 a49
                      unfold fX10_make_L4
                      refine g_iload 7 rfl 338 rfl dX10_make_336 ?_
                      refine g_iload_n 3 rfl rfl 339 rfl dX10_make_338 ?_
                      refine g_icmp_ge 377 (by decide) 342 rfl dX10_make_339 ?_ ?_
                      · refine g_sub [(0, .ref (wA Ω 0)), (1, .int p0), (2, .int p1), (3, .int x4), (4, .int x10), (7, .int a43.1), (8, .int a43.2.1)] [0, 1, 2, 3, 4, 5, 6] rfl ?_
                        exact hk46 a49.2
                      · refine g_aload_n 0 rfl rfl 343 rfl dX10_make_342 ?_
                        refine w_getR (lm_0 hX) rfl in_X10 15 (by decide) wf_X10_35 8 rfl 346 rfl dX10_make_343 ?_
                        refine g_iload 7 rfl 348 rfl dX10_make_346 ?_
                        refine w_iald (lm_8 hX) 349 rfl dX10_make_348 ?_
                        refine g_iload 6 rfl 351 rfl dX10_make_349 ?_
                        refine g_join 371 (fun a51 => [(0, .ref (wA Ω 0)), (1, .int p0), (2, .int p1), (3, .int x4), (4, .int x10), (7, .int a43.1), (8, .int a43.2.1), (9, .int a49.1)]) (fun a51 => []) (fun a51 => a51) ?_ ?_
                        · intro a51
                          refine g_iinc 7 rfl 1 (by decide) (fun x53 => [(9, .int x53), (0, .ref (wA Ω 0)), (1, .int p0), (2, .int p1), (3, .int x4), (4, .int x10), (7, .int a43.1), (8, .int a43.2.1)]) 374 rfl dX10_make_371 (by decide) (fun _ => rfl) ?_
                          intro x53
                          refine g_goto 336 (by decide) dX10_make_374 ?_
                          refine g_sub [(0, .ref (wA Ω 0)), (1, .int p0), (2, .int p1), (3, .int x4), (4, .int x10), (7, .int a43.1), (8, .int a43.2.1), (9, .int x53)] [1, 2, 3, 4, 5, 6, 7, 0] rfl ?_
                          exact hk50 (x53, a51)
                        · intro k52 hk52
                          refine g_icmp_ne 371 (by decide) 354 rfl dX10_make_351 ?_ ?_
                          · refine g_aload_n 0 rfl rfl 355 rfl dX10_make_354 ?_
                            refine g_iload_n 1 rfl rfl 356 rfl dX10_make_355 ?_
                            refine g_iload_n 2 rfl rfl 357 rfl dX10_make_356 ?_
                            refine g_iload 7 rfl 359 rfl dX10_make_357 ?_
                            refine g_iload 5 rfl 361 rfl dX10_make_359 ?_
                            refine g_aload_n 0 rfl rfl 362 rfl dX10_make_361 ?_
                            refine w_getR (lm_0 hX) rfl in_X10 16 (by decide) wf_X10_38 9 rfl 365 rfl dX10_make_362 ?_
                            refine g_iload 6 rfl 367 rfl dX10_make_365 ?_
                            refine w_iald (lm_9 hX) 368 rfl dX10_make_367 ?_
                            refine g_cVV 0 [.int p0, .int p1, .int a49.1, .int a43.1, .int (a49.2 9 a43.2.1.toNatClampNeg)] [] (c_X10_puts l hO hX a49.2 p0 p1 a49.1 a43.1 (a49.2 9 a43.2.1.toNatClampNeg)) dX10_make_368 uv_X10_161 rfl yk_X10_puts ⟨by decide, by decide⟩ (lm_0 hX).1 (lm_0 hX).2 rfl (Nat.le_of_ble_eq_true rfl) rfl 371 rfl ?_
                            intro u54 M55
                            exact hk52 M55
                          · exact hk52 a49.2
              · intro k16 hk16
                refine g_sub [(0, .ref (wA Ω 0)), (1, .int p0), (2, .int p1), (3, .int x4), (4, .int x10), (5, .int a13.1), (6, .int 1)] [1, 2, 3, 4, 5, 6, 0] rfl ?_
                refine g_loop 245 (fun a56 => [(0, .ref (wA Ω 0)), (1, .int p0), (2, .int p1), (3, .int x4), (4, .int x10), (5, .int a56.1), (6, .int a56.2.1)]) (fun _ => []) (fun a56 => a56.2.2) ?_ FU (a13.1, 1, a13.2)
                intro k57 hk57 a56
                unfold fX10_make_L7
                refine g_iload 6 rfl 247 rfl dX10_make_245 ?_
                refine g_if_eq 320 (by decide) 250 rfl dX10_make_247 ?_ ?_
                · refine g_sub [(0, .ref (wA Ω 0)), (1, .int p0), (2, .int p1), (3, .int x4), (4, .int x10)] [0, 1, 2, 3, 4] rfl ?_
                  exact hk16 a56.2.2
                · refine g_iload 5 rfl 252 rfl dX10_make_250 ?_
                  refine g_if_le 320 (by decide) 255 rfl dX10_make_252 ?_ ?_
                  · refine g_sub [(0, .ref (wA Ω 0)), (1, .int p0), (2, .int p1), (3, .int x4), (4, .int x10)] [0, 1, 2, 3, 4] rfl ?_
                    exact hk16 a56.2.2
                  · refine g_iconst 0 256 rfl dX10_make_255 (by decide) ?_
                    refine g_istoreA [(6, .int 0), (0, .ref (wA Ω 0)), (1, .int p0), (2, .int p1), (3, .int x4), (4, .int x10), (5, .int a56.1)] 258 rfl dX10_make_256 (by decide) rfl ?_
                    refine g_iconst 0 259 rfl dX10_make_258 (by decide) ?_
                    refine g_istoreA [(7, .int 0), (6, .int 0), (0, .ref (wA Ω 0)), (1, .int p0), (2, .int p1), (3, .int x4), (4, .int x10), (5, .int a56.1)] 261 rfl dX10_make_259 (by decide) rfl ?_
                    refine g_join 317 (fun a58 => [(0, .ref (wA Ω 0)), (1, .int p0), (2, .int p1), (3, .int x4), (4, .int x10), (5, .int a58.1), (6, .int a58.2.1)]) (fun a58 => []) (fun a58 => a58.2.2) ?_ ?_
                    · intro a58
                      refine g_goto 245 (by decide) dX10_make_317 ?_
                      exact hk57 (a58.1, a58.2.1, a58.2.2)
                    · intro k59 hk59
                      refine g_sub [(0, .ref (wA Ω 0)), (1, .int p0), (2, .int p1), (3, .int x4), (4, .int x10), (5, .int a56.1), (6, .int 0), (7, .int 0)] [2, 3, 4, 5, 6, 7, 1, 0] rfl ?_
                      refine g_loop 261 (fun a60 => [(0, .ref (wA Ω 0)), (1, .int p0), (2, .int p1), (3, .int x4), (4, .int x10), (5, .int a60.1), (6, .int a60.2.1), (7, .int a60.2.2.1)]) (fun _ => []) (fun a60 => a60.2.2.2) ?_ FU (a56.1, 0, 0, a56.2.2)
                      intro k61 hk61 a60
                      unfold fX10_make_L6
                      refine g_iload 7 rfl 263 rfl dX10_make_261 ?_
                      refine g_iload 4 rfl 265 rfl dX10_make_263 ?_
                      refine g_icmp_ge 317 (by decide) 268 rfl dX10_make_265 ?_ ?_
                      · refine g_sub [(0, .ref (wA Ω 0)), (1, .int p0), (2, .int p1), (3, .int x4), (4, .int x10), (5, .int a60.1), (6, .int a60.2.1)] [0, 1, 2, 3, 4, 5, 6] rfl ?_
                        exact hk59 (a60.1, a60.2.1, a60.2.2.2)
                      · refine g_iload 5 rfl 270 rfl dX10_make_268 ?_
                        refine g_if_le 317 (by decide) 273 rfl dX10_make_270 ?_ ?_
                        · refine g_sub [(0, .ref (wA Ω 0)), (1, .int p0), (2, .int p1), (3, .int x4), (4, .int x10), (5, .int a60.1), (6, .int a60.2.1)] [0, 1, 2, 3, 4, 5, 6] rfl ?_
                          exact hk59 (a60.1, a60.2.1, a60.2.2.2)
                        · refine g_aload_n 0 rfl rfl 274 rfl dX10_make_273 ?_
                          refine w_getR (lm_0 hX) rfl in_X10 16 (by decide) wf_X10_38 9 rfl 277 rfl dX10_make_274 ?_
                          refine g_iload 7 rfl 279 rfl dX10_make_277 ?_
                          refine w_iald (lm_9 hX) 280 rfl dX10_make_279 ?_
                          refine g_aload_n 0 rfl rfl 281 rfl dX10_make_280 ?_
                          refine w_getR (lm_0 hX) rfl in_X10 1 (by decide) wf_X10_9 1 rfl 284 rfl dX10_make_281 ?_
                          refine g_iconst 0 285 rfl dX10_make_284 (by decide) ?_
                          refine w_iald (lm_1 hX) 286 rfl dX10_make_285 ?_
                          refine g_iconst 5 287 rfl dX10_make_286 (by decide) ?_
                          refine g_isub 288 rfl dX10_make_287 ?_
                          refine g_join 311 (fun a62 => [(0, .ref (wA Ω 0)), (1, .int p0), (2, .int p1), (3, .int x4), (4, .int x10), (5, .int a62.1), (6, .int a62.2.1), (7, .int a60.2.2.1)]) (fun a62 => []) (fun a62 => a62.2.2) ?_ ?_
                          · intro a62
                            refine g_iinc 7 rfl 1 (by decide) (fun x64 => [(7, .int x64), (0, .ref (wA Ω 0)), (1, .int p0), (2, .int p1), (3, .int x4), (4, .int x10), (5, .int a62.1), (6, .int a62.2.1)]) 314 rfl dX10_make_311 (by decide) (fun _ => rfl) ?_
                            intro x64
                            refine g_goto 261 (by decide) dX10_make_314 ?_
                            refine g_sub [(0, .ref (wA Ω 0)), (1, .int p0), (2, .int p1), (3, .int x4), (4, .int x10), (5, .int a62.1), (6, .int a62.2.1), (7, .int x64)] [1, 2, 3, 4, 5, 6, 7, 0] rfl ?_
                            exact hk61 (a62.1, a62.2.1, x64, a62.2.2)
                          · intro k63 hk63
                            refine g_icmp_lt 294 (by decide) 291 rfl dX10_make_288 ?_ ?_
                            · refine g_aload_n 0 rfl rfl 295 rfl dX10_make_294 ?_
                              refine w_getR (lm_0 hX) rfl in_X10 16 (by decide) wf_X10_38 9 rfl 298 rfl dX10_make_295 ?_
                              refine g_iload 7 rfl 300 rfl dX10_make_298 ?_
                              refine g_dup2 301 rfl dX10_make_300 rfl rfl ?_
                              refine w_iald (lm_9 hX) 302 rfl dX10_make_301 ?_
                              refine g_iconst 1 303 rfl dX10_make_302 (by decide) ?_
                              refine g_iadd 304 rfl dX10_make_303 ?_
                              refine w_iast (lm_9 hX) 305 rfl dX10_make_304 ?_
                              intro M65
                              refine g_iinc 5 rfl (-1) (by decide) (fun x66 => [(5, .int x66), (0, .ref (wA Ω 0)), (1, .int p0), (2, .int p1), (3, .int x4), (4, .int x10), (6, .int a60.2.1), (7, .int a60.2.2.1)]) 308 rfl dX10_make_305 (by decide) (fun _ => rfl) ?_
                              intro x66
                              refine g_iconst 1 309 rfl dX10_make_308 (by decide) ?_
                              refine g_istoreA [(6, .int 1), (5, .int x66), (0, .ref (wA Ω 0)), (1, .int p0), (2, .int p1), (3, .int x4), (4, .int x10), (7, .int a60.2.2.1)] 311 rfl dX10_make_309 (by decide) rfl ?_
                              refine g_sub [(0, .ref (wA Ω 0)), (1, .int p0), (2, .int p1), (3, .int x4), (4, .int x10), (5, .int x66), (6, .int 1), (7, .int a60.2.2.1)] [2, 3, 4, 5, 6, 1, 0, 7] rfl ?_
                              exact hk63 (x66, 1, M65)
                            · refine g_goto 311 (by decide) dX10_make_291 ?_
                              exact hk63 (a60.1, a60.2.1, a60.2.2.2)
            · refine g_aload_n 0 rfl rfl 235 rfl dX10_make_234 ?_
              refine g_bipush 6 237 rfl dX10_make_235 (by decide) ?_
              refine g_iconst 3 238 rfl dX10_make_237 (by decide) ?_
              refine g_cVI 0 [.int 6, .int 3] [] (c_X10_refuses l hO hX a13.2 6 3) dX10_make_238 uv_X10_158 rfl yk_X10_refuses ⟨by decide, by decide⟩ (lm_0 hX).1 (lm_0 hX).2 rfl (Nat.le_of_ble_eq_true rfl) rfl 241 rfl ?_
              intro x67 M68
              exact g_iret rfl dX10_make_241
          · intro k14 hk14
            refine g_sub [(0, .ref (wA Ω 0)), (1, .int p0), (2, .int p1), (3, .int x4), (4, .int x10), (5, .int x12), (6, .int 0)] [4, 5, 6, 3, 2, 1, 0] rfl ?_
            refine g_loop 63 (fun a69 => [(0, .ref (wA Ω 0)), (1, .int p0), (2, .int p1), (3, .int x4), (4, .int x10), (5, .int a69.1), (6, .int a69.2.1)]) (fun _ => []) (fun a69 => a69.2.2) ?_ FU (x12, 0, M11)
            intro k70 hk70 a69
            unfold fX10_make_L10
            refine g_iload 6 rfl 65 rfl dX10_make_63 ?_
            refine g_iload 4 rfl 67 rfl dX10_make_65 ?_
            refine g_icmp_ge 229 (by decide) 70 rfl dX10_make_67 ?_ ?_
            · refine g_sub [(0, .ref (wA Ω 0)), (1, .int p0), (2, .int p1), (3, .int x4), (4, .int x10), (5, .int a69.1)] [0, 1, 2, 3, 4, 5] rfl ?_
              exact hk14 (a69.1, a69.2.2)
            · refine g_aload_n 0 rfl rfl 71 rfl dX10_make_70 ?_
              refine w_getR (lm_0 hX) rfl in_X10 16 (by decide) wf_X10_38 9 rfl 74 rfl dX10_make_71 ?_
              refine g_iload 6 rfl 76 rfl dX10_make_74 ?_
              refine g_iconst 0 77 rfl dX10_make_76 (by decide) ?_
              refine w_iast (lm_9 hX) 78 rfl dX10_make_77 ?_
              intro M71
              refine g_aload_n 0 rfl rfl 79 rfl dX10_make_78 ?_
              refine w_getR (lm_0 hX) rfl in_X10 17 (by decide) wf_X10_41 10 rfl 82 rfl dX10_make_79 ?_
              refine g_iload 6 rfl 84 rfl dX10_make_82 ?_
              refine g_iconst 0 85 rfl dX10_make_84 (by decide) ?_
              refine w_iast (lm_10 hX) 86 rfl dX10_make_85 ?_
              intro M72
              refine g_iload 6 rfl 88 rfl dX10_make_86 ?_
              refine g_iconst 1 89 rfl dX10_make_88 (by decide) ?_
              refine g_iadd 90 rfl dX10_make_89 ?_
              refine g_iload 4 rfl 92 rfl dX10_make_90 ?_
              refine g_irem 93 rfl dX10_make_92 ?_
              refine g_istore (fun x73 => [(7, .int x73), (0, .ref (wA Ω 0)), (1, .int p0), (2, .int p1), (3, .int x4), (4, .int x10), (5, .int a69.1), (6, .int a69.2.1)]) 95 rfl dX10_make_93 (by decide) (fun _ => rfl) ?_
              intro x73
              refine g_iconst 0 96 rfl dX10_make_95 (by decide) ?_
              refine g_istoreA [(8, .int 0), (7, .int x73), (0, .ref (wA Ω 0)), (1, .int p0), (2, .int p1), (3, .int x4), (4, .int x10), (5, .int a69.1), (6, .int a69.2.1)] 98 rfl dX10_make_96 (by decide) rfl ?_
              refine g_join 203 (fun a74 => [(0, .ref (wA Ω 0)), (1, .int p0), (2, .int p1), (3, .int x4), (4, .int x10), (5, .int a69.1), (6, .int a69.2.1)]) (fun a74 => []) (fun a74 => a74) ?_ ?_
              · intro a74
                refine g_iload 5 rfl 205 rfl dX10_make_203 ?_
                refine g_aload_n 0 rfl rfl 206 rfl dX10_make_205 ?_
                refine w_getR (lm_0 hX) rfl in_X10 16 (by decide) wf_X10_38 9 rfl 209 rfl dX10_make_206 ?_
                refine g_iload 6 rfl 211 rfl dX10_make_209 ?_
                refine w_iald (lm_9 hX) 212 rfl dX10_make_211 ?_
                refine g_aload_n 0 rfl rfl 213 rfl dX10_make_212 ?_
                refine w_getR (lm_0 hX) rfl in_X10 17 (by decide) wf_X10_41 10 rfl 216 rfl dX10_make_213 ?_
                refine g_iload 6 rfl 218 rfl dX10_make_216 ?_
                refine w_iald (lm_10 hX) 219 rfl dX10_make_218 ?_
                refine g_iadd 220 rfl dX10_make_219 ?_
                refine g_isub 221 rfl dX10_make_220 ?_
                refine g_istore (fun x76 => [(5, .int x76), (0, .ref (wA Ω 0)), (1, .int p0), (2, .int p1), (3, .int x4), (4, .int x10), (6, .int a69.2.1)]) 223 rfl dX10_make_221 (by decide) (fun _ => rfl) ?_
                intro x76
                refine g_iinc 6 rfl 1 (by decide) (fun x77 => [(6, .int x77), (5, .int x76), (0, .ref (wA Ω 0)), (1, .int p0), (2, .int p1), (3, .int x4), (4, .int x10)]) 226 rfl dX10_make_223 (by decide) (fun _ => rfl) ?_
                intro x77
                refine g_goto 63 (by decide) dX10_make_226 ?_
                refine g_sub [(0, .ref (wA Ω 0)), (1, .int p0), (2, .int p1), (3, .int x4), (4, .int x10), (5, .int x76), (6, .int x77)] [2, 3, 4, 5, 6, 1, 0] rfl ?_
                exact hk70 (x76, x77, a74)
              · intro k75 hk75
                refine g_sub [(0, .ref (wA Ω 0)), (1, .int p0), (2, .int p1), (3, .int x4), (4, .int x10), (5, .int a69.1), (6, .int a69.2.1), (7, .int x73), (8, .int 0)] [2, 3, 4, 5, 6, 7, 8, 1, 0] rfl ?_
                refine g_loop 98 (fun a78 => [(0, .ref (wA Ω 0)), (1, .int p0), (2, .int p1), (3, .int x4), (4, .int x10), (5, .int a69.1), (6, .int a69.2.1), (7, .int x73), (8, .int a78.1)]) (fun _ => []) (fun a78 => a78.2) ?_ FU (0, M72)
                intro k79 hk79 a78
                unfold fX10_make_L9
                refine g_iload 8 rfl 100 rfl dX10_make_98 ?_
                refine g_iload_n 3 rfl rfl 101 rfl dX10_make_100 ?_
                refine g_icmp_ge 203 (by decide) 104 rfl dX10_make_101 ?_ ?_
                · refine g_sub [(0, .ref (wA Ω 0)), (1, .int p0), (2, .int p1), (3, .int x4), (4, .int x10), (5, .int a69.1), (6, .int a69.2.1)] [0, 1, 2, 3, 4, 5, 6] rfl ?_
                  exact hk75 a78.2
                · refine g_aload_n 0 rfl rfl 105 rfl dX10_make_104 ?_
                  refine w_getR (lm_0 hX) rfl in_X10 15 (by decide) wf_X10_35 8 rfl 108 rfl dX10_make_105 ?_
                  refine g_iload 8 rfl 110 rfl dX10_make_108 ?_
                  refine w_iald (lm_8 hX) 111 rfl dX10_make_110 ?_
                  refine g_iload 6 rfl 113 rfl dX10_make_111 ?_
                  refine g_join 197 (fun a80 => [(0, .ref (wA Ω 0)), (1, .int p0), (2, .int p1), (3, .int x4), (4, .int x10), (5, .int a69.1), (6, .int a69.2.1), (7, .int x73), (8, .int a78.1)]) (fun a80 => []) (fun a80 => a80) ?_ ?_
                  · intro a80
                    refine g_iinc 8 rfl 1 (by decide) (fun x82 => [(8, .int x82), (0, .ref (wA Ω 0)), (1, .int p0), (2, .int p1), (3, .int x4), (4, .int x10), (5, .int a69.1), (6, .int a69.2.1), (7, .int x73)]) 200 rfl dX10_make_197 (by decide) (fun _ => rfl) ?_
                    intro x82
                    refine g_goto 98 (by decide) dX10_make_200 ?_
                    refine g_sub [(0, .ref (wA Ω 0)), (1, .int p0), (2, .int p1), (3, .int x4), (4, .int x10), (5, .int a69.1), (6, .int a69.2.1), (7, .int x73), (8, .int x82)] [1, 2, 3, 4, 5, 6, 7, 8, 0] rfl ?_
                    exact hk79 (x82, a80)
                  · intro k81 hk81
                    refine g_icmp_eq 119 (by decide) 116 rfl dX10_make_113 ?_ ?_
                    · refine g_aload_n 0 rfl rfl 120 rfl dX10_make_119 ?_
                      refine w_getR (lm_0 hX) rfl in_X10 16 (by decide) wf_X10_38 9 rfl 123 rfl dX10_make_120 ?_
                      refine g_iload 6 rfl 125 rfl dX10_make_123 ?_
                      refine g_aload_n 0 rfl rfl 126 rfl dX10_make_125 ?_
                      refine w_getR (lm_0 hX) rfl in_X10 16 (by decide) wf_X10_38 9 rfl 129 rfl dX10_make_126 ?_
                      refine g_iload 6 rfl 131 rfl dX10_make_129 ?_
                      refine w_iald (lm_9 hX) 132 rfl dX10_make_131 ?_
                      refine g_aload_n 0 rfl rfl 133 rfl dX10_make_132 ?_
                      refine g_iload_n 1 rfl rfl 134 rfl dX10_make_133 ?_
                      refine g_iload 8 rfl 136 rfl dX10_make_134 ?_
                      refine g_iconst 1 137 rfl dX10_make_136 (by decide) ?_
                      refine p_cVI 0 [.int p0, .int a78.1, .int 1] [.int (a78.2 9 a69.2.1.toNatClampNeg), .int a69.2.1, .ref (wA Ω 9)] (c_X10_groupOf l hO hX a78.2 p0 a78.1 1) dX10_make_137 uv_X10_89 rfl yk_X10_groupOf ⟨by decide, by decide⟩ (lm_0 hX).1 (lm_0 hX).2 rfl (Nat.le_of_ble_eq_true rfl) rfl 140 rfl ?_
                      intro x83
                      refine p_cTI [.int (a78.2 9 a69.2.1.toNatClampNeg), .int x83] [.int a69.2.1, .ref (wA Ω 9)] (c_J9_max_7cf53 l hO a78.2 (a78.2 9 a69.2.1.toNatClampNeg) x83) dX10_make_140 ut_X10_185 yk_J9_max_7cf53 ⟨by decide, by decide⟩ (Nat.le_of_ble_eq_true rfl) rfl 143 rfl ?_
                      intro x84
                      refine w_iast (lm_9 hX) 144 rfl dX10_make_143 ?_
                      intro M85
                      refine g_iconst 0 145 rfl dX10_make_144 (by decide) ?_
                      refine g_istoreA [(9, .int 0), (0, .ref (wA Ω 0)), (1, .int p0), (2, .int p1), (3, .int x4), (4, .int x10), (5, .int a69.1), (6, .int a69.2.1), (7, .int x73), (8, .int a78.1)] 147 rfl dX10_make_145 (by decide) rfl ?_
                      refine g_sub [(0, .ref (wA Ω 0)), (1, .int p0), (2, .int p1), (3, .int x4), (4, .int x10), (5, .int a69.1), (6, .int a69.2.1), (7, .int x73), (8, .int a78.1), (9, .int 0)] [1, 2, 3, 4, 5, 6, 7, 8, 9, 0] rfl ?_
                      refine g_loop 147 (fun a86 => [(0, .ref (wA Ω 0)), (1, .int p0), (2, .int p1), (3, .int x4), (4, .int x10), (5, .int a69.1), (6, .int a69.2.1), (7, .int x73), (8, .int a78.1), (9, .int a86.1)]) (fun _ => []) (fun a86 => a86.2) ?_ FU (0, M85)
                      intro k87 hk87 a86
                      unfold fX10_make_L8
                      refine g_iload 9 rfl 149 rfl dX10_make_147 ?_
                      refine g_iload_n 3 rfl rfl 150 rfl dX10_make_149 ?_
                      refine g_icmp_ge 197 (by decide) 153 rfl dX10_make_150 ?_ ?_
                      · refine g_sub [(0, .ref (wA Ω 0)), (1, .int p0), (2, .int p1), (3, .int x4), (4, .int x10), (5, .int a69.1), (6, .int a69.2.1), (7, .int x73), (8, .int a78.1)] [0, 1, 2, 3, 4, 5, 6, 7, 8] rfl ?_
                        exact hk81 a86.2
                      · refine g_aload_n 0 rfl rfl 154 rfl dX10_make_153 ?_
                        refine w_getR (lm_0 hX) rfl in_X10 15 (by decide) wf_X10_35 8 rfl 157 rfl dX10_make_154 ?_
                        refine g_iload 9 rfl 159 rfl dX10_make_157 ?_
                        refine w_iald (lm_8 hX) 160 rfl dX10_make_159 ?_
                        refine g_iload 7 rfl 162 rfl dX10_make_160 ?_
                        refine g_join 191 (fun a88 => [(0, .ref (wA Ω 0)), (1, .int p0), (2, .int p1), (3, .int x4), (4, .int x10), (5, .int a69.1), (6, .int a69.2.1), (7, .int x73), (8, .int a78.1), (9, .int a86.1)]) (fun a88 => []) (fun a88 => a88) ?_ ?_
                        · intro a88
                          refine g_iinc 9 rfl 1 (by decide) (fun x90 => [(9, .int x90), (0, .ref (wA Ω 0)), (1, .int p0), (2, .int p1), (3, .int x4), (4, .int x10), (5, .int a69.1), (6, .int a69.2.1), (7, .int x73), (8, .int a78.1)]) 194 rfl dX10_make_191 (by decide) (fun _ => rfl) ?_
                          intro x90
                          refine g_goto 147 (by decide) dX10_make_194 ?_
                          refine g_sub [(0, .ref (wA Ω 0)), (1, .int p0), (2, .int p1), (3, .int x4), (4, .int x10), (5, .int a69.1), (6, .int a69.2.1), (7, .int x73), (8, .int a78.1), (9, .int x90)] [1, 2, 3, 4, 5, 6, 7, 8, 9, 0] rfl ?_
                          exact hk87 (x90, a88)
                        · intro k89 hk89
                          refine g_icmp_ne 191 (by decide) 165 rfl dX10_make_162 ?_ ?_
                          · refine g_aload_n 0 rfl rfl 166 rfl dX10_make_165 ?_
                            refine w_getR (lm_0 hX) rfl in_X10 17 (by decide) wf_X10_41 10 rfl 169 rfl dX10_make_166 ?_
                            refine g_iload 6 rfl 171 rfl dX10_make_169 ?_
                            refine g_aload_n 0 rfl rfl 172 rfl dX10_make_171 ?_
                            refine w_getR (lm_0 hX) rfl in_X10 17 (by decide) wf_X10_41 10 rfl 175 rfl dX10_make_172 ?_
                            refine g_iload 6 rfl 177 rfl dX10_make_175 ?_
                            refine w_iald (lm_10 hX) 178 rfl dX10_make_177 ?_
                            refine g_aload_n 0 rfl rfl 179 rfl dX10_make_178 ?_
                            refine g_iload_n 1 rfl rfl 180 rfl dX10_make_179 ?_
                            refine g_iload 8 rfl 182 rfl dX10_make_180 ?_
                            refine g_iload 9 rfl 184 rfl dX10_make_182 ?_
                            refine p_cVI 0 [.int p0, .int a78.1, .int a86.1] [.int (a86.2 10 a69.2.1.toNatClampNeg), .int a69.2.1, .ref (wA Ω 10)] (c_X10_clear l hO hX a86.2 p0 a78.1 a86.1) dX10_make_184 uv_X10_121 rfl yk_X10_clear ⟨by decide, by decide⟩ (lm_0 hX).1 (lm_0 hX).2 rfl (Nat.le_of_ble_eq_true rfl) rfl 187 rfl ?_
                            intro x91
                            refine p_cTI [.int (a86.2 10 a69.2.1.toNatClampNeg), .int x91] [.int a69.2.1, .ref (wA Ω 10)] (c_J9_max_7cf53 l hO a86.2 (a86.2 10 a69.2.1.toNatClampNeg) x91) dX10_make_187 ut_X10_185 yk_J9_max_7cf53 ⟨by decide, by decide⟩ (Nat.le_of_ble_eq_true rfl) rfl 190 rfl ?_
                            intro x92
                            refine w_iast (lm_10 hX) 191 rfl dX10_make_190 ?_
                            intro M93
                            exact hk89 M93
                          · exact hk89 a86.2
                    · refine g_goto 197 (by decide) dX10_make_116 ?_
                      exact hk81 a78.2
        · refine g_sub [(0, .ref (wA Ω 0))] [1] rfl ?_
          exact hk6 ()
def fX10_shown_L1 (p0 : Int32) (p1 : Int32) (p2 : Int32) (M : Mem) (k2 : (Int32 × Int32) → Option Int32) (a1 : Int32 × Int32) : Option Int32 := clp (fX10_of M p0 2) (fun x3 => if x3 ≤ a1.2 then (some a1.1) else (clp (fX10_isOn M p0 p1 a1.2 p2) (fun x4 => jn (fun (a5 : Int32) => bnd (a1.2 + 1) (fun x7 => k2 (a5, x7))) (fun k6 => if x4 = 0 then (k6 a1.1) else (bnd (a1.1 ||| (1 <<< (a1.2 &&& 31))) (fun x8 => k6 x8))))))
def fX10_shown (M : Mem) (p0 : Int32) (p1 : Int32) (p2 : Int32) : Option Int32 := lp (fX10_shown_L1 p0 p1 p2 M) FU (0, 0)
set_option maxRecDepth 100000 in
set_option maxHeartbeats 4000000 in
theorem c_X10_shown {Ω : Wd} (l : Launch) (hO : OkW Ω) (hX : LM Ω)  (M : Mem) (p0 : Int32) (p1 : Int32) (p2 : Int32) : ∀ r, fX10_shown M p0 p1 p2 = some r → Ct l yX10_shown (.code yX10_shown cX10_shown 6 (some .int)) 4 91 Ω [.ref (wA Ω 0), .int p0, .int p1, .int p2] M ((cpI M) r) := by
  refine ofG [(0, .ref (wA Ω 0)), (1, .int p0), (2, .int p1), (3, .int p2)] hO (by decide) rfl (Nat.le_of_ble_eq_true rfl) rfl ?_
  intro p e s m args below meth c
  unfold fX10_shown
  refine g_iconst 0 1 rfl dX10_shown_0 (by decide) ?_
  refine g_istoreA [(4, .int 0), (0, .ref (wA Ω 0)), (1, .int p0), (2, .int p1), (3, .int p2)] 3 rfl dX10_shown_1 (by decide) rfl ?_
  refine g_iconst 0 4 rfl dX10_shown_3 (by decide) ?_
  refine g_istoreA [(5, .int 0), (4, .int 0), (0, .ref (wA Ω 0)), (1, .int p0), (2, .int p1), (3, .int p2)] 6 rfl dX10_shown_4 (by decide) rfl ?_
  refine g_sub [(0, .ref (wA Ω 0)), (1, .int p0), (2, .int p1), (3, .int p2), (4, .int 0), (5, .int 0)] [2, 3, 4, 5, 1, 0] rfl ?_
  refine g_loop 6 (fun a1 => [(0, .ref (wA Ω 0)), (1, .int p0), (2, .int p1), (3, .int p2), (4, .int a1.1), (5, .int a1.2)]) (fun _ => []) (fun a1 => M) ?_ FU (0, 0)
  intro k2 hk2 a1
  unfold fX10_shown_L1
  refine g_iload 5 rfl 8 rfl dX10_shown_6 ?_
  refine g_aload_n 0 rfl rfl 9 rfl dX10_shown_8 ?_
  refine g_iload_n 1 rfl rfl 10 rfl dX10_shown_9 ?_
  refine g_iconst 2 11 rfl dX10_shown_10 (by decide) ?_
  refine p_cVI 0 [.int p0, .int 2] [.int a1.2] (c_X10_of l hO hX M p0 2) dX10_shown_11 uv_X10_78 rfl yk_X10_of ⟨by decide, by decide⟩ (lm_0 hX).1 (lm_0 hX).2 rfl (Nat.le_of_ble_eq_true rfl) rfl 14 rfl ?_
  intro x3
  refine g_icmp_ge 44 (by decide) 17 rfl dX10_shown_14 ?_ ?_
  · refine g_iload 4 rfl 46 rfl dX10_shown_44 ?_
    exact p_iret rfl dX10_shown_46
  · refine g_aload_n 0 rfl rfl 18 rfl dX10_shown_17 ?_
    refine g_iload_n 1 rfl rfl 19 rfl dX10_shown_18 ?_
    refine g_iload_n 2 rfl rfl 20 rfl dX10_shown_19 ?_
    refine g_iload 5 rfl 22 rfl dX10_shown_20 ?_
    refine g_iload_n 3 rfl rfl 23 rfl dX10_shown_22 ?_
    refine p_cVI 0 [.int p0, .int p1, .int a1.2, .int p2] [] (c_X10_isOn l hO hX M p0 p1 a1.2 p2) dX10_shown_23 uv_X10_133 rfl yk_X10_isOn ⟨by decide, by decide⟩ (lm_0 hX).1 (lm_0 hX).2 rfl (Nat.le_of_ble_eq_true rfl) rfl 26 rfl ?_
    intro x4
    refine g_join 38 (fun a5 => [(0, .ref (wA Ω 0)), (1, .int p0), (2, .int p1), (3, .int p2), (4, .int a5), (5, .int a1.2)]) (fun a5 => []) (fun a5 => M) ?_ ?_
    · intro a5
      refine g_iinc 5 rfl 1 (by decide) (fun x7 => [(5, .int x7), (0, .ref (wA Ω 0)), (1, .int p0), (2, .int p1), (3, .int p2), (4, .int a5)]) 41 rfl dX10_shown_38 (by decide) (fun _ => rfl) ?_
      intro x7
      refine g_goto 6 (by decide) dX10_shown_41 ?_
      refine g_sub [(0, .ref (wA Ω 0)), (1, .int p0), (2, .int p1), (3, .int p2), (4, .int a5), (5, .int x7)] [1, 2, 3, 4, 5, 0] rfl ?_
      exact hk2 (a5, x7)
    · intro k6 hk6
      refine g_if_eq 38 (by decide) 29 rfl dX10_shown_26 ?_ ?_
      · exact hk6 a1.1
      · refine g_iload 4 rfl 31 rfl dX10_shown_29 ?_
        refine g_iconst 1 32 rfl dX10_shown_31 (by decide) ?_
        refine g_iload 5 rfl 34 rfl dX10_shown_32 ?_
        refine g_ishl 35 rfl dX10_shown_34 ?_
        refine g_ior 36 rfl dX10_shown_35 ?_
        refine g_istore (fun x8 => [(4, .int x8), (0, .ref (wA Ω 0)), (1, .int p0), (2, .int p1), (3, .int p2), (5, .int a1.2)]) 38 rfl dX10_shown_36 (by decide) (fun _ => rfl) ?_
        intro x8
        refine g_sub [(0, .ref (wA Ω 0)), (1, .int p0), (2, .int p1), (3, .int p2), (4, .int x8), (5, .int a1.2)] [1, 2, 3, 4, 0, 5] rfl ?_
        exact hk6 x8
def fX10_shows (M : Mem) (p0 : Int32) (p1 : Int32) (p2 : Int32) : Option (Int32 × Mem) := bnd (mset M 0 0 0) (fun M1 => clp (fX10_isPlan M1 p0 p1) (fun x2 => if x2 = 0 then (cl (fX10_raises M1 1) (fun x9 M10 => some (x9, M10))) else (grd (inb 0 490) (clp (fX10_in M1 p2 0 ((M1 1 (0 : Int32).toNatClampNeg) - 1)) (fun x3 => jn (fun (a4 : Int32 × Mem) => some (a4.1, a4.2)) (fun k5 => if x3 = 0 then (cl (fX10_raises M1 2) (fun x6 M7 => k5 (x6, M7))) else (clp (fX10_shown M1 p0 p1 p2) (fun x8 => k5 (x8, M1)))))))))
set_option maxRecDepth 100000 in
set_option maxHeartbeats 4000000 in
theorem c_X10_shows {Ω : Wd} (l : Launch) (hO : OkW Ω) (hX : LM Ω)  (M : Mem) (p0 : Int32) (p1 : Int32) (p2 : Int32) : ∀ r, fX10_shows M p0 p1 p2 = some r → Ct l yX10_shows (.code yX10_shows cX10_shows 4 (some .int)) 5 116 Ω [.ref (wA Ω 0), .int p0, .int p1, .int p2] M (cvI r) := by
  refine ofG [(0, .ref (wA Ω 0)), (1, .int p0), (2, .int p1), (3, .int p2)] hO (by decide) rfl (Nat.le_of_ble_eq_true rfl) rfl ?_
  intro p e s m args below meth c
  unfold fX10_shows
  refine g_aload_n 0 rfl rfl 1 rfl dX10_shows_0 ?_
  refine g_iconst 0 2 rfl dX10_shows_1 (by decide) ?_
  refine w_put (lm_0 hX) rfl in_X10 0 (by decide) wf_X10_47 tyX10 tyX10_ok nmX10 rfl rfl rfl rfl 5 rfl dX10_shows_2 ?_
  intro M1
  refine g_aload_n 0 rfl rfl 6 rfl dX10_shows_5 ?_
  refine g_iload_n 1 rfl rfl 7 rfl dX10_shows_6 ?_
  refine g_iload_n 2 rfl rfl 8 rfl dX10_shows_7 ?_
  refine p_cVI 0 [.int p0, .int p1] [] (c_X10_isPlan l hO hX M1 p0 p1) dX10_shows_8 uv_X10_165 rfl yk_X10_isPlan ⟨by decide, by decide⟩ (lm_0 hX).1 (lm_0 hX).2 rfl (Nat.le_of_ble_eq_true rfl) rfl 11 rfl ?_
  intro x2
  refine g_if_ne 20 (by decide) 14 rfl dX10_shows_11 ?_ ?_
  · refine g_aload_n 0 rfl rfl 15 rfl dX10_shows_14 ?_
    refine g_iconst 1 16 rfl dX10_shows_15 (by decide) ?_
    refine g_cVI 0 [.int 1] [] (c_X10_raises l hO hX M1 1) dX10_shows_16 uv_X10_53 rfl yk_X10_raises ⟨by decide, by decide⟩ (lm_0 hX).1 (lm_0 hX).2 rfl (Nat.le_of_ble_eq_true rfl) rfl 19 rfl ?_
    intro x9 M10
    exact g_iret rfl dX10_shows_19
  · refine g_iload_n 3 rfl rfl 21 rfl dX10_shows_20 ?_
    refine g_iconst 0 22 rfl dX10_shows_21 (by decide) ?_
    refine g_aload_n 0 rfl rfl 23 rfl dX10_shows_22 ?_
    refine w_getR (lm_0 hX) rfl in_X10 1 (by decide) wf_X10_9 1 rfl 26 rfl dX10_shows_23 ?_
    refine g_iconst 0 27 rfl dX10_shows_26 (by decide) ?_
    refine w_iald (lm_1 hX) 28 rfl dX10_shows_27 ?_
    refine g_iconst 1 29 rfl dX10_shows_28 (by decide) ?_
    refine g_isub 30 rfl dX10_shows_29 ?_
    refine p_cSI [.int p2, .int 0, .int ((M1 1 (0 : Int32).toNatClampNeg) - 1)] [] (c_X10_in l hO M1 p2 0 ((M1 1 (0 : Int32).toNatClampNeg) - 1)) dX10_shows_30 us_X10_70 rfl yk_X10_in ⟨by decide, by decide⟩ (Nat.le_of_ble_eq_true rfl) rfl 33 rfl ?_
    intro x3
    refine g_join 51 (fun a4 => []) (fun a4 => [.int a4.1]) (fun a4 => a4.2) ?_ ?_
    · intro a4
      exact g_iret rfl dX10_shows_51
    · intro k5 hk5
      refine g_if_eq 46 (by decide) 36 rfl dX10_shows_33 ?_ ?_
      · refine g_aload_n 0 rfl rfl 47 rfl dX10_shows_46 ?_
        refine g_iconst 2 48 rfl dX10_shows_47 (by decide) ?_
        refine g_cVI 0 [.int 2] [] (c_X10_raises l hO hX M1 2) dX10_shows_48 uv_X10_53 rfl yk_X10_raises ⟨by decide, by decide⟩ (lm_0 hX).1 (lm_0 hX).2 rfl (Nat.le_of_ble_eq_true rfl) rfl 51 rfl ?_
        intro x6 M7
        refine g_sub [] [] rfl ?_
        exact hk5 (x6, M7)
      · refine g_aload_n 0 rfl rfl 37 rfl dX10_shows_36 ?_
        refine g_iload_n 1 rfl rfl 38 rfl dX10_shows_37 ?_
        refine g_iload_n 2 rfl rfl 39 rfl dX10_shows_38 ?_
        refine g_iload_n 3 rfl rfl 40 rfl dX10_shows_39 ?_
        refine p_cVI 0 [.int p0, .int p1, .int p2] [] (c_X10_shown l hO hX M1 p0 p1 p2) dX10_shows_40 uv_X10_188 rfl yk_X10_shown ⟨by decide, by decide⟩ (lm_0 hX).1 (lm_0 hX).2 rfl (Nat.le_of_ble_eq_true rfl) rfl 43 rfl ?_
        intro x8
        refine g_goto 51 (by decide) dX10_shows_43 ?_
        refine g_sub [] [] rfl ?_
        exact hk5 (x8, M1)
def fX10_picture_L1 (a10 : Int32 × Int32 × Mem) (M13 : Mem) (k15 : Int32 → Option (Int32 × Mem)) (k21 : Int32 → Option (Int32 × Mem)) (a20 : Int32) : Option (Int32 × Mem) := grd (inb a20 120) (grd (inb a10.1 120) (if M13 11 a20.toNatClampNeg = M13 11 a10.1.toNatClampNeg then (k15 a20) else (bnd (a20 + 1) (fun x22 => k21 x22))))
def fX10_picture_L2 (p0 : Int32) (p1 : Int32) (k4 : (Int32 × Mem) → Option (Int32 × Mem)) (k11 : (Int32 × Int32 × Mem) → Option (Int32 × Mem)) (a10 : Int32 × Int32 × Mem) : Option (Int32 × Mem) := grd (inb 0 490) (if a10.2.2 1 (0 : Int32).toNatClampNeg ≤ a10.2.1 then (k4 (a10.1, a10.2.2)) else (clp (fX10_shown a10.2.2 p0 p1 a10.2.1) (fun x12 => grd (inb a10.1 120) (bnd (mset a10.2.2 11 a10.1.toNatClampNeg x12) (fun M13 => jn (fun (a14 : Int32) => jn (fun (a16 : Int32) => bnd (a10.2.1 + 1) (fun x18 => k11 (a16, x18, M13))) (fun k17 => if a14 = a10.1 then (bnd (a10.1 + 1) (fun x19 => k17 x19)) else (k17 a10.1))) (fun k15 => lp (fX10_picture_L1 a10 M13 k15) FU 0))))))
def fX10_picture (M : Mem) (p0 : Int32) (p1 : Int32) (p2 : Int32) : Option (Int32 × Mem) := bnd (mset M 0 0 0) (fun M1 => clp (fX10_isPlan M1 p0 p1) (fun x2 => if x2 = 0 then (cl (fX10_raises M1 1) (fun x23 M24 => some (x23, M24))) else (jn (fun (a3 : Int32 × Mem) => if p2 = (-1) then (some (a3.1, a3.2)) else (clp (fX10_in a3.2 p2 0 (a3.1 - 1)) (fun x5 => jn (fun (a6 : Int32 × Mem) => some (a6.1, a6.2)) (fun k7 => if x5 = 0 then (cl (fX10_raises a3.2 2) (fun x8 M9 => k7 (x8, M9))) else (grd (inb p2 120) (k7 (a3.2 11 p2.toNatClampNeg, a3.2))))))) (fun k4 => lp (fX10_picture_L2 p0 p1 k4) FU (0, 0, M1)))))
set_option maxRecDepth 100000 in
set_option maxHeartbeats 4000000 in
theorem c_X10_picture {Ω : Wd} (l : Launch) (hO : OkW Ω) (hX : LM Ω)  (M : Mem) (p0 : Int32) (p1 : Int32) (p2 : Int32) : ∀ r, fX10_picture M p0 p1 p2 = some r → Ct l yX10_picture (.code yX10_picture cX10_picture 7 (some .int)) 5 116 Ω [.ref (wA Ω 0), .int p0, .int p1, .int p2] M (cvI r) := by
  refine ofG [(0, .ref (wA Ω 0)), (1, .int p0), (2, .int p1), (3, .int p2)] hO (by decide) rfl (Nat.le_of_ble_eq_true rfl) rfl ?_
  intro p e s m args below meth c
  unfold fX10_picture
  refine g_aload_n 0 rfl rfl 1 rfl dX10_picture_0 ?_
  refine g_iconst 0 2 rfl dX10_picture_1 (by decide) ?_
  refine w_put (lm_0 hX) rfl in_X10 0 (by decide) wf_X10_47 tyX10 tyX10_ok nmX10 rfl rfl rfl rfl 5 rfl dX10_picture_2 ?_
  intro M1
  refine g_aload_n 0 rfl rfl 6 rfl dX10_picture_5 ?_
  refine g_iload_n 1 rfl rfl 7 rfl dX10_picture_6 ?_
  refine g_iload_n 2 rfl rfl 8 rfl dX10_picture_7 ?_
  refine p_cVI 0 [.int p0, .int p1] [] (c_X10_isPlan l hO hX M1 p0 p1) dX10_picture_8 uv_X10_165 rfl yk_X10_isPlan ⟨by decide, by decide⟩ (lm_0 hX).1 (lm_0 hX).2 rfl (Nat.le_of_ble_eq_true rfl) rfl 11 rfl ?_
  intro x2
  refine g_if_ne 20 (by decide) 14 rfl dX10_picture_11 ?_ ?_
  · refine g_aload_n 0 rfl rfl 15 rfl dX10_picture_14 ?_
    refine g_iconst 1 16 rfl dX10_picture_15 (by decide) ?_
    refine g_cVI 0 [.int 1] [] (c_X10_raises l hO hX M1 1) dX10_picture_16 uv_X10_53 rfl yk_X10_raises ⟨by decide, by decide⟩ (lm_0 hX).1 (lm_0 hX).2 rfl (Nat.le_of_ble_eq_true rfl) rfl 19 rfl ?_
    intro x23 M24
    exact g_iret rfl dX10_picture_19
  · refine g_iconst 0 21 rfl dX10_picture_20 (by decide) ?_
    refine g_istoreA [(4, .int 0), (0, .ref (wA Ω 0)), (1, .int p0), (2, .int p1), (3, .int p2)] 23 rfl dX10_picture_21 (by decide) rfl ?_
    refine g_iconst 0 24 rfl dX10_picture_23 (by decide) ?_
    refine g_istoreA [(5, .int 0), (4, .int 0), (0, .ref (wA Ω 0)), (1, .int p0), (2, .int p1), (3, .int p2)] 26 rfl dX10_picture_24 (by decide) rfl ?_
    refine g_join 94 (fun a3 => [(0, .ref (wA Ω 0)), (3, .int p2), (4, .int a3.1)]) (fun a3 => []) (fun a3 => a3.2) ?_ ?_
    · intro a3
      refine g_iload_n 1 rfl rfl 95 rfl dX10_picture_94 ?_
      refine g_iconst (-1) 96 rfl dX10_picture_95 (by decide) ?_
      refine g_icmp_ne 102 (by decide) 99 rfl dX10_picture_96 ?_ ?_
      · refine g_iload 2 rfl 101 rfl dX10_picture_99 ?_
        exact g_iret rfl dX10_picture_101
      · refine g_iload_n 1 rfl rfl 103 rfl dX10_picture_102 ?_
        refine g_iconst 0 104 rfl dX10_picture_103 (by decide) ?_
        refine g_iload 2 rfl 106 rfl dX10_picture_104 ?_
        refine g_iconst 1 107 rfl dX10_picture_106 (by decide) ?_
        refine g_isub 108 rfl dX10_picture_107 ?_
        refine p_cSI [.int p2, .int 0, .int (a3.1 - 1)] [] (c_X10_in l hO a3.2 p2 0 (a3.1 - 1)) dX10_picture_108 us_X10_70 rfl yk_X10_in ⟨by decide, by decide⟩ (Nat.le_of_ble_eq_true rfl) rfl 111 rfl ?_
        intro x5
        refine g_join 128 (fun a6 => []) (fun a6 => [.int a6.1]) (fun a6 => a6.2) ?_ ?_
        · intro a6
          exact g_iret rfl dX10_picture_128
        · intro k7 hk7
          refine g_if_eq 123 (by decide) 114 rfl dX10_picture_111 ?_ ?_
          · refine g_aload_n 0 rfl rfl 124 rfl dX10_picture_123 ?_
            refine g_iconst 2 125 rfl dX10_picture_124 (by decide) ?_
            refine g_cVI 0 [.int 2] [] (c_X10_raises l hO hX a3.2 2) dX10_picture_125 uv_X10_53 rfl yk_X10_raises ⟨by decide, by decide⟩ (lm_0 hX).1 (lm_0 hX).2 rfl (Nat.le_of_ble_eq_true rfl) rfl 128 rfl ?_
            intro x8 M9
            refine g_sub [] [] rfl ?_
            exact hk7 (x8, M9)
          · refine g_aload_n 0 rfl rfl 115 rfl dX10_picture_114 ?_
            refine w_getR (lm_0 hX) rfl in_X10 18 (by decide) wf_X10_44 11 rfl 118 rfl dX10_picture_115 ?_
            refine g_iload_n 1 rfl rfl 119 rfl dX10_picture_118 ?_
            refine w_iald (lm_11 hX) 120 rfl dX10_picture_119 ?_
            refine g_goto 128 (by decide) dX10_picture_120 ?_
            refine g_sub [] [] rfl ?_
            exact hk7 (a3.2 11 p2.toNatClampNeg, a3.2)
    · intro k4 hk4
      refine g_sub [(0, .ref (wA Ω 0)), (1, .int p0), (2, .int p1), (3, .int p2), (4, .int 0), (5, .int 0)] [2, 3, 4, 5, 1, 0] rfl ?_
      refine g_loop 26 (fun a10 => [(0, .ref (wA Ω 0)), (1, .int p0), (2, .int p1), (3, .int p2), (4, .int a10.1), (5, .int a10.2.1)]) (fun _ => []) (fun a10 => a10.2.2) ?_ FU (0, 0, M1)
      intro k11 hk11 a10
      unfold fX10_picture_L2
      refine g_iload 5 rfl 28 rfl dX10_picture_26 ?_
      refine g_aload_n 0 rfl rfl 29 rfl dX10_picture_28 ?_
      refine w_getR (lm_0 hX) rfl in_X10 1 (by decide) wf_X10_9 1 rfl 32 rfl dX10_picture_29 ?_
      refine g_iconst 0 33 rfl dX10_picture_32 (by decide) ?_
      refine w_iald (lm_1 hX) 34 rfl dX10_picture_33 ?_
      refine g_icmp_ge 94 (by decide) 37 rfl dX10_picture_34 ?_ ?_
      · refine g_sub [(0, .ref (wA Ω 0)), (3, .int p2), (4, .int a10.1)] [0, 3, 4] rfl ?_
        exact hk4 (a10.1, a10.2.2)
      · refine g_aload_n 0 rfl rfl 38 rfl dX10_picture_37 ?_
        refine w_getR (lm_0 hX) rfl in_X10 18 (by decide) wf_X10_44 11 rfl 41 rfl dX10_picture_38 ?_
        refine g_iload 4 rfl 43 rfl dX10_picture_41 ?_
        refine g_aload_n 0 rfl rfl 44 rfl dX10_picture_43 ?_
        refine g_iload_n 1 rfl rfl 45 rfl dX10_picture_44 ?_
        refine g_iload_n 2 rfl rfl 46 rfl dX10_picture_45 ?_
        refine g_iload 5 rfl 48 rfl dX10_picture_46 ?_
        refine p_cVI 0 [.int p0, .int p1, .int a10.2.1] [.int a10.1, .ref (wA Ω 11)] (c_X10_shown l hO hX a10.2.2 p0 p1 a10.2.1) dX10_picture_48 uv_X10_188 rfl yk_X10_shown ⟨by decide, by decide⟩ (lm_0 hX).1 (lm_0 hX).2 rfl (Nat.le_of_ble_eq_true rfl) rfl 51 rfl ?_
        intro x12
        refine w_iast (lm_11 hX) 52 rfl dX10_picture_51 ?_
        intro M13
        refine g_iconst 0 53 rfl dX10_picture_52 (by decide) ?_
        refine g_istoreA [(6, .int 0), (0, .ref (wA Ω 0)), (1, .int p0), (2, .int p1), (3, .int p2), (4, .int a10.1), (5, .int a10.2.1)] 55 rfl dX10_picture_53 (by decide) rfl ?_
        refine g_join 78 (fun a14 => [(0, .ref (wA Ω 0)), (1, .int p0), (2, .int p1), (3, .int p2), (4, .int a10.1), (5, .int a10.2.1), (6, .int a14)]) (fun a14 => []) (fun a14 => M13) ?_ ?_
        · intro a14
          refine g_iload 6 rfl 80 rfl dX10_picture_78 ?_
          refine g_iload 4 rfl 82 rfl dX10_picture_80 ?_
          refine g_join 88 (fun a16 => [(0, .ref (wA Ω 0)), (1, .int p0), (2, .int p1), (3, .int p2), (4, .int a16), (5, .int a10.2.1)]) (fun a16 => []) (fun a16 => M13) ?_ ?_
          · intro a16
            refine g_iinc 5 rfl 1 (by decide) (fun x18 => [(5, .int x18), (0, .ref (wA Ω 0)), (1, .int p0), (2, .int p1), (3, .int p2), (4, .int a16)]) 91 rfl dX10_picture_88 (by decide) (fun _ => rfl) ?_
            intro x18
            refine g_goto 26 (by decide) dX10_picture_91 ?_
            refine g_sub [(0, .ref (wA Ω 0)), (1, .int p0), (2, .int p1), (3, .int p2), (4, .int a16), (5, .int x18)] [1, 2, 3, 4, 5, 0] rfl ?_
            exact hk11 (a16, x18, M13)
          · intro k17 hk17
            refine g_icmp_ne 88 (by decide) 85 rfl dX10_picture_82 ?_ ?_
            · refine g_iinc 4 rfl 1 (by decide) (fun x19 => [(4, .int x19), (0, .ref (wA Ω 0)), (1, .int p0), (2, .int p1), (3, .int p2), (5, .int a10.2.1), (6, .int a14)]) 88 rfl dX10_picture_85 (by decide) (fun _ => rfl) ?_
              intro x19
              refine g_sub [(0, .ref (wA Ω 0)), (1, .int p0), (2, .int p1), (3, .int p2), (4, .int x19), (5, .int a10.2.1)] [1, 2, 3, 4, 0, 5] rfl ?_
              exact hk17 x19
            · refine g_sub [(0, .ref (wA Ω 0)), (1, .int p0), (2, .int p1), (3, .int p2), (4, .int a10.1), (5, .int a10.2.1)] [0, 1, 2, 3, 4, 5] rfl ?_
              exact hk17 a10.1
        · intro k15 hk15
          refine g_sub [(0, .ref (wA Ω 0)), (1, .int p0), (2, .int p1), (3, .int p2), (4, .int a10.1), (5, .int a10.2.1), (6, .int 0)] [1, 2, 3, 4, 5, 6, 0] rfl ?_
          refine g_loop 55 (fun a20 => [(0, .ref (wA Ω 0)), (1, .int p0), (2, .int p1), (3, .int p2), (4, .int a10.1), (5, .int a10.2.1), (6, .int a20)]) (fun _ => []) (fun a20 => M13) ?_ FU 0
          intro k21 hk21 a20
          unfold fX10_picture_L1
          refine g_aload_n 0 rfl rfl 56 rfl dX10_picture_55 ?_
          refine w_getR (lm_0 hX) rfl in_X10 18 (by decide) wf_X10_44 11 rfl 59 rfl dX10_picture_56 ?_
          refine g_iload 6 rfl 61 rfl dX10_picture_59 ?_
          refine w_iald (lm_11 hX) 62 rfl dX10_picture_61 ?_
          refine g_aload_n 0 rfl rfl 63 rfl dX10_picture_62 ?_
          refine w_getR (lm_0 hX) rfl in_X10 18 (by decide) wf_X10_44 11 rfl 66 rfl dX10_picture_63 ?_
          refine g_iload 4 rfl 68 rfl dX10_picture_66 ?_
          refine w_iald (lm_11 hX) 69 rfl dX10_picture_68 ?_
          refine g_icmp_eq 78 (by decide) 72 rfl dX10_picture_69 ?_ ?_
          · exact hk15 a20
          · refine g_iinc 6 rfl 1 (by decide) (fun x22 => [(6, .int x22), (0, .ref (wA Ω 0)), (1, .int p0), (2, .int p1), (3, .int p2), (4, .int a10.1), (5, .int a10.2.1)]) 75 rfl dX10_picture_72 (by decide) (fun _ => rfl) ?_
            intro x22
            refine g_goto 55 (by decide) dX10_picture_75 ?_
            refine g_sub [(0, .ref (wA Ω 0)), (1, .int p0), (2, .int p1), (3, .int p2), (4, .int a10.1), (5, .int a10.2.1), (6, .int x22)] [1, 2, 3, 4, 5, 6, 0] rfl ?_
            exact hk21 x22
def fX10_goes_L1 (p0 : Int32) (x3 : Int32) (k5 : (Int32 × Mem) → Option (Int32 × Mem)) (k7 : (Int32 × Int32 × Mem) → Option (Int32 × Mem)) (a6 : Int32 × Int32 × Mem) : Option (Int32 × Mem) := if x3 ≤ a6.2.1 then (k5 (a6.1, a6.2.2)) else (jn (fun (a8 : Int32) => clp (fX10_of a6.2.2 a8 (5 + p0)) (fun x10 => clp (fX10_local a6.2.2 a8 a6.1) (fun x11 => clp (fX10_of a6.2.2 a8 3) (fun x12 => clp (fX10_first a6.2.2 a8 x12 x10) (fun x13 => clp (fX10_mod a6.2.2 (x11 - x13)) (fun x14 => clp (fX10_of a6.2.2 a8 3) (fun x15 => clp (fX10_length a6.2.2 a8 x15 x10) (fun x16 => jn (fun (a17 : Int32 × Mem) => jn (fun (a19 : Int32) => bnd (a6.2.1 + 1) (fun x21 => k7 (a19, x21, a17.2))) (fun k20 => if a6.2.1 = x3 - 1 then (k20 a17.1) else (jn (fun (a22 : Int32) => clp (fX10_of a17.2 a22 0) (fun x24 => clp (fX10_of a17.2 a8 0) (fun x25 => clp (fJ9_abs_0f7a4 a17.2 (x24 - x25)) (fun x26 => grd (inb 1 490) (grd (inb 1 490) (grd (nz (a17.2 1 (1 : Int32).toNatClampNeg)) (bnd (a17.1 + (((x26 + (a17.2 1 (1 : Int32).toNatClampNeg)) - 1) / (a17.2 1 (1 : Int32).toNatClampNeg))) (fun x27 => k20 x27)))))))) (fun k23 => if p0 = 0 then (k23 (a8 + 1)) else (k23 (a8 - 1)))))) (fun k18 => if x14 < x16 then (k18 (a6.1, a6.2.2)) else (bnd (mset a6.2.2 0 19 ((a6.2.2 0 19) + 1)) (fun M28 => grd (inb 0 490) (bnd (mset M28 0 20 ((M28 0 20) + ((M28 1 (0 : Int32).toNatClampNeg) - x14))) (fun M29 => grd (inb 0 490) (bnd (a6.1 + ((M29 1 (0 : Int32).toNatClampNeg) - x14)) (fun x30 => k18 (x30, M29)))))))))))))))) (fun k9 => if p0 = 0 then (k9 a6.2.1) else (k9 ((x3 - 1) - a6.2.1))))
def fX10_goes (M : Mem) (p0 : Int32) (p1 : Int32) : Option (Int32 × Mem) := bnd (mset M 0 19 0) (fun M1 => bnd (mset M1 0 20 0) (fun M2 => grd (inb 2 490) (bnd (M2 1 (2 : Int32).toNatClampNeg) (fun x3 => jn (fun (a4 : Int32 × Mem) => some (a4.1 - p1, a4.2)) (fun k5 => lp (fX10_goes_L1 p0 x3 k5) FU (p1, 0, M2))))))
set_option maxRecDepth 100000 in
set_option maxHeartbeats 4000000 in
theorem c_X10_goes {Ω : Wd} (l : Launch) (hO : OkW Ω) (hX : LM Ω)  (M : Mem) (p0 : Int32) (p1 : Int32) : ∀ r, fX10_goes M p0 p1 = some r → Ct l yX10_goes (.code yX10_goes cX10_goes 10 (some .int)) 3 67 Ω [.ref (wA Ω 0), .int p0, .int p1] M (cvI r) := by
  refine ofG [(0, .ref (wA Ω 0)), (1, .int p0), (2, .int p1)] hO (by decide) rfl (Nat.le_of_ble_eq_true rfl) rfl ?_
  intro p e s m args below meth c
  unfold fX10_goes
  refine g_aload_n 0 rfl rfl 1 rfl dX10_goes_0 ?_
  refine g_iconst 0 2 rfl dX10_goes_1 (by decide) ?_
  refine w_put (lm_0 hX) rfl in_X10 19 (by decide) wf_X10_191 tyX10 tyX10_ok nmX10 rfl rfl rfl rfl 5 rfl dX10_goes_2 ?_
  intro M1
  refine g_aload_n 0 rfl rfl 6 rfl dX10_goes_5 ?_
  refine g_iconst 0 7 rfl dX10_goes_6 (by decide) ?_
  refine w_put (lm_0 hX) rfl in_X10 20 (by decide) wf_X10_194 tyX10 tyX10_ok nmX10 rfl rfl rfl rfl 10 rfl dX10_goes_7 ?_
  intro M2
  refine g_iload_n 2 rfl rfl 11 rfl dX10_goes_10 ?_
  refine g_istore_nA [(3, .int p1), (0, .ref (wA Ω 0)), (1, .int p0), (2, .int p1)] rfl 12 rfl dX10_goes_11 (by decide) rfl ?_
  refine g_aload_n 1 rfl rfl 13 rfl dX10_goes_12 ?_
  refine w_getR (lm_0 hX) rfl in_X10 1 (by decide) wf_X10_9 1 rfl 16 rfl dX10_goes_13 ?_
  refine g_iconst 2 17 rfl dX10_goes_16 (by decide) ?_
  refine w_iald (lm_1 hX) 18 rfl dX10_goes_17 ?_
  refine g_istore (fun x3 => [(4, .int x3), (3, .int p1), (0, .ref (wA Ω 0)), (1, .int p0), (2, .int p1)]) 20 rfl dX10_goes_18 (by decide) (fun _ => rfl) ?_
  intro x3
  refine g_iconst 0 21 rfl dX10_goes_20 (by decide) ?_
  refine g_istoreA [(5, .int 0), (4, .int x3), (3, .int p1), (0, .ref (wA Ω 0)), (1, .int p0), (2, .int p1)] 23 rfl dX10_goes_21 (by decide) rfl ?_
  refine g_join 220 (fun a4 => [(2, .int p1), (3, .int a4.1)]) (fun a4 => []) (fun a4 => a4.2) ?_ ?_
  · intro a4
    refine g_iload_n 1 rfl rfl 221 rfl dX10_goes_220 ?_
    refine g_iload_n 0 rfl rfl 222 rfl dX10_goes_221 ?_
    refine g_isub 223 rfl dX10_goes_222 ?_
    exact g_iret rfl dX10_goes_223
  · intro k5 hk5
    refine g_sub [(0, .ref (wA Ω 0)), (1, .int p0), (2, .int p1), (3, .int p1), (4, .int x3), (5, .int 0)] [3, 4, 5, 2, 1, 0] rfl ?_
    refine g_loop 23 (fun a6 => [(0, .ref (wA Ω 0)), (1, .int p0), (2, .int p1), (3, .int a6.1), (4, .int x3), (5, .int a6.2.1)]) (fun _ => []) (fun a6 => a6.2.2) ?_ FU (p1, 0, M2)
    intro k7 hk7 a6
    unfold fX10_goes_L1
    refine g_iload 5 rfl 25 rfl dX10_goes_23 ?_
    refine g_iload 4 rfl 27 rfl dX10_goes_25 ?_
    refine g_icmp_ge 220 (by decide) 30 rfl dX10_goes_27 ?_ ?_
    · refine g_sub [(2, .int p1), (3, .int a6.1)] [2, 3] rfl ?_
      exact hk5 (a6.1, a6.2.2)
    · refine g_iload_n 1 rfl rfl 31 rfl dX10_goes_30 ?_
      refine g_join 46 (fun a8 => [(0, .ref (wA Ω 0)), (1, .int p0), (2, .int p1), (3, .int a6.1), (4, .int x3), (5, .int a6.2.1)]) (fun a8 => [.int a8]) (fun a8 => a6.2.2) ?_ ?_
      · intro a8
        refine g_istoreA [(6, .int a8), (0, .ref (wA Ω 0)), (1, .int p0), (2, .int p1), (3, .int a6.1), (4, .int x3), (5, .int a6.2.1)] 48 rfl dX10_goes_46 (by decide) rfl ?_
        refine g_aload_n 1 rfl rfl 49 rfl dX10_goes_48 ?_
        refine g_iload 0 rfl 51 rfl dX10_goes_49 ?_
        refine g_iconst 5 52 rfl dX10_goes_51 (by decide) ?_
        refine g_iload_n 2 rfl rfl 53 rfl dX10_goes_52 ?_
        refine g_iadd 54 rfl dX10_goes_53 ?_
        refine p_cVI 0 [.int a8, .int (5 + p0)] [] (c_X10_of l hO hX a6.2.2 a8 (5 + p0)) dX10_goes_54 uv_X10_78 rfl yk_X10_of ⟨by decide, by decide⟩ (lm_0 hX).1 (lm_0 hX).2 rfl (Nat.le_of_ble_eq_true rfl) rfl 57 rfl ?_
        intro x10
        refine g_istoreA [(7, .int x10), (6, .int a8), (0, .ref (wA Ω 0)), (1, .int p0), (2, .int p1), (3, .int a6.1), (4, .int x3), (5, .int a6.2.1)] 59 rfl dX10_goes_57 (by decide) rfl ?_
        refine g_aload_n 2 rfl rfl 60 rfl dX10_goes_59 ?_
        refine g_aload_n 2 rfl rfl 61 rfl dX10_goes_60 ?_
        refine g_iload 1 rfl 63 rfl dX10_goes_61 ?_
        refine g_iload_n 5 rfl rfl 64 rfl dX10_goes_63 ?_
        refine p_cVI 0 [.int a8, .int a6.1] [.ref (wA Ω 0)] (c_X10_local l hO hX a6.2.2 a8 a6.1) dX10_goes_64 uv_X10_124 rfl yk_X10_local ⟨by decide, by decide⟩ (lm_0 hX).1 (lm_0 hX).2 rfl (Nat.le_of_ble_eq_true rfl) rfl 67 rfl ?_
        intro x11
        refine g_aload_n 2 rfl rfl 68 rfl dX10_goes_67 ?_
        refine g_iload 1 rfl 70 rfl dX10_goes_68 ?_
        refine g_aload_n 2 rfl rfl 71 rfl dX10_goes_70 ?_
        refine g_iload 1 rfl 73 rfl dX10_goes_71 ?_
        refine g_iconst 3 74 rfl dX10_goes_73 (by decide) ?_
        refine p_cVI 0 [.int a8, .int 3] [.int a8, .ref (wA Ω 0), .int x11, .ref (wA Ω 0)] (c_X10_of l hO hX a6.2.2 a8 3) dX10_goes_74 uv_X10_78 rfl yk_X10_of ⟨by decide, by decide⟩ (lm_0 hX).1 (lm_0 hX).2 rfl (Nat.le_of_ble_eq_true rfl) rfl 77 rfl ?_
        intro x12
        refine g_iload 0 rfl 79 rfl dX10_goes_77 ?_
        refine p_cVI 0 [.int a8, .int x12, .int x10] [.int x11, .ref (wA Ω 0)] (c_X10_first l hO hX a6.2.2 a8 x12 x10) dX10_goes_79 uv_X10_93 rfl yk_X10_first ⟨by decide, by decide⟩ (lm_0 hX).1 (lm_0 hX).2 rfl (Nat.le_of_ble_eq_true rfl) rfl 82 rfl ?_
        intro x13
        refine g_isub 83 rfl dX10_goes_82 ?_
        refine p_cVI 0 [.int (x11 - x13)] [] (c_X10_mod l hO hX a6.2.2 (x11 - x13)) dX10_goes_83 uv_X10_86 rfl yk_X10_mod ⟨by decide, by decide⟩ (lm_0 hX).1 (lm_0 hX).2 rfl (Nat.le_of_ble_eq_true rfl) rfl 86 rfl ?_
        intro x14
        refine g_istoreA [(8, .int x14), (7, .int x10), (6, .int a8), (0, .ref (wA Ω 0)), (1, .int p0), (2, .int p1), (3, .int a6.1), (4, .int x3), (5, .int a6.2.1)] 88 rfl dX10_goes_86 (by decide) rfl ?_
        refine g_iload 0 rfl 90 rfl dX10_goes_88 ?_
        refine g_aload_n 3 rfl rfl 91 rfl dX10_goes_90 ?_
        refine g_iload 2 rfl 93 rfl dX10_goes_91 ?_
        refine g_aload_n 3 rfl rfl 94 rfl dX10_goes_93 ?_
        refine g_iload 2 rfl 96 rfl dX10_goes_94 ?_
        refine g_iconst 3 97 rfl dX10_goes_96 (by decide) ?_
        refine p_cVI 0 [.int a8, .int 3] [.int a8, .ref (wA Ω 0), .int x14] (c_X10_of l hO hX a6.2.2 a8 3) dX10_goes_97 uv_X10_78 rfl yk_X10_of ⟨by decide, by decide⟩ (lm_0 hX).1 (lm_0 hX).2 rfl (Nat.le_of_ble_eq_true rfl) rfl 100 rfl ?_
        intro x15
        refine g_iload 1 rfl 102 rfl dX10_goes_100 ?_
        refine p_cVI 0 [.int a8, .int x15, .int x10] [.int x14] (c_X10_length l hO hX a6.2.2 a8 x15 x10) dX10_goes_102 uv_X10_96 rfl yk_X10_length ⟨by decide, by decide⟩ (lm_0 hX).1 (lm_0 hX).2 rfl (Nat.le_of_ble_eq_true rfl) rfl 105 rfl ?_
        intro x16
        refine g_join 148 (fun a17 => [(0, .ref (wA Ω 0)), (1, .int p0), (2, .int p1), (3, .int a17.1), (4, .int x3), (5, .int a6.2.1), (6, .int a8)]) (fun a17 => []) (fun a17 => a17.2) ?_ ?_
        · intro a17
          refine g_iload 5 rfl 150 rfl dX10_goes_148 ?_
          refine g_iload 4 rfl 152 rfl dX10_goes_150 ?_
          refine g_iconst 1 153 rfl dX10_goes_152 (by decide) ?_
          refine g_isub 154 rfl dX10_goes_153 ?_
          refine g_join 214 (fun a19 => [(0, .ref (wA Ω 0)), (1, .int p0), (2, .int p1), (3, .int a19), (4, .int x3), (5, .int a6.2.1)]) (fun a19 => []) (fun a19 => a17.2) ?_ ?_
          · intro a19
            refine g_iinc 5 rfl 1 (by decide) (fun x21 => [(5, .int x21), (0, .ref (wA Ω 0)), (1, .int p0), (2, .int p1), (3, .int a19), (4, .int x3)]) 217 rfl dX10_goes_214 (by decide) (fun _ => rfl) ?_
            intro x21
            refine g_goto 23 (by decide) dX10_goes_217 ?_
            refine g_sub [(0, .ref (wA Ω 0)), (1, .int p0), (2, .int p1), (3, .int a19), (4, .int x3), (5, .int x21)] [1, 2, 3, 4, 5, 0] rfl ?_
            exact hk7 (a19, x21, a17.2)
          · intro k20 hk20
            refine g_icmp_ne 160 (by decide) 157 rfl dX10_goes_154 ?_ ?_
            · refine g_goto 214 (by decide) dX10_goes_157 ?_
              refine g_sub [(0, .ref (wA Ω 0)), (1, .int p0), (2, .int p1), (3, .int a17.1), (4, .int x3), (5, .int a6.2.1)] [0, 1, 2, 3, 4, 5] rfl ?_
              exact hk20 a17.1
            · refine g_aload_n 0 rfl rfl 161 rfl dX10_goes_160 ?_
              refine g_iload_n 1 rfl rfl 162 rfl dX10_goes_161 ?_
              refine g_join 176 (fun a22 => [(0, .ref (wA Ω 0)), (1, .int p0), (2, .int p1), (3, .int a17.1), (4, .int x3), (5, .int a6.2.1), (6, .int a8)]) (fun a22 => [.int a22, .ref (wA Ω 0)]) (fun a22 => a17.2) ?_ ?_
              · intro a22
                refine g_iconst 0 177 rfl dX10_goes_176 (by decide) ?_
                refine p_cVI 0 [.int a22, .int 0] [] (c_X10_of l hO hX a17.2 a22 0) dX10_goes_177 uv_X10_78 rfl yk_X10_of ⟨by decide, by decide⟩ (lm_0 hX).1 (lm_0 hX).2 rfl (Nat.le_of_ble_eq_true rfl) rfl 180 rfl ?_
                intro x24
                refine g_aload_n 0 rfl rfl 181 rfl dX10_goes_180 ?_
                refine g_iload 6 rfl 183 rfl dX10_goes_181 ?_
                refine g_iconst 0 184 rfl dX10_goes_183 (by decide) ?_
                refine p_cVI 0 [.int a8, .int 0] [.int x24] (c_X10_of l hO hX a17.2 a8 0) dX10_goes_184 uv_X10_78 rfl yk_X10_of ⟨by decide, by decide⟩ (lm_0 hX).1 (lm_0 hX).2 rfl (Nat.le_of_ble_eq_true rfl) rfl 187 rfl ?_
                intro x25
                refine g_isub 188 rfl dX10_goes_187 ?_
                refine p_cTI [.int (x24 - x25)] [] (c_J9_abs_0f7a4 l hO a17.2 (x24 - x25)) dX10_goes_188 ut_X10_197 yk_J9_abs_0f7a4 ⟨by decide, by decide⟩ (Nat.le_of_ble_eq_true rfl) rfl 191 rfl ?_
                intro x26
                refine g_istoreA [(9, .int x26), (0, .ref (wA Ω 0)), (1, .int p0), (2, .int p1), (3, .int a17.1), (4, .int x3), (5, .int a6.2.1), (6, .int a8)] 193 rfl dX10_goes_191 (by decide) rfl ?_
                refine g_iload_n 4 rfl rfl 194 rfl dX10_goes_193 ?_
                refine g_iload 0 rfl 196 rfl dX10_goes_194 ?_
                refine g_aload_n 1 rfl rfl 197 rfl dX10_goes_196 ?_
                refine w_getR (lm_0 hX) rfl in_X10 1 (by decide) wf_X10_9 1 rfl 200 rfl dX10_goes_197 ?_
                refine g_iconst 1 201 rfl dX10_goes_200 (by decide) ?_
                refine w_iald (lm_1 hX) 202 rfl dX10_goes_201 ?_
                refine g_iadd 203 rfl dX10_goes_202 ?_
                refine g_iconst 1 204 rfl dX10_goes_203 (by decide) ?_
                refine g_isub 205 rfl dX10_goes_204 ?_
                refine g_aload_n 1 rfl rfl 206 rfl dX10_goes_205 ?_
                refine w_getR (lm_0 hX) rfl in_X10 1 (by decide) wf_X10_9 1 rfl 209 rfl dX10_goes_206 ?_
                refine g_iconst 1 210 rfl dX10_goes_209 (by decide) ?_
                refine w_iald (lm_1 hX) 211 rfl dX10_goes_210 ?_
                refine g_idiv 212 rfl dX10_goes_211 ?_
                refine g_iadd 213 rfl dX10_goes_212 ?_
                refine g_istore_n (fun x27 => [(3, .int x27), (9, .int x26), (0, .ref (wA Ω 0)), (1, .int p0), (2, .int p1), (4, .int x3), (5, .int a6.2.1), (6, .int a8)]) rfl 214 rfl dX10_goes_213 (by decide) (fun _ => rfl) ?_
                intro x27
                refine g_sub [(0, .ref (wA Ω 0)), (1, .int p0), (2, .int p1), (3, .int x27), (4, .int x3), (5, .int a6.2.1)] [2, 3, 4, 0, 5, 6] rfl ?_
                exact hk20 x27
              · intro k23 hk23
                refine g_if_ne 172 (by decide) 165 rfl dX10_goes_162 ?_ ?_
                · refine g_iload 6 rfl 167 rfl dX10_goes_165 ?_
                  refine g_iconst 1 168 rfl dX10_goes_167 (by decide) ?_
                  refine g_iadd 169 rfl dX10_goes_168 ?_
                  refine g_goto 176 (by decide) dX10_goes_169 ?_
                  exact hk23 (a8 + 1)
                · refine g_iload 6 rfl 174 rfl dX10_goes_172 ?_
                  refine g_iconst 1 175 rfl dX10_goes_174 (by decide) ?_
                  refine g_isub 176 rfl dX10_goes_175 ?_
                  exact hk23 (a8 - 1)
        · intro k18 hk18
          refine g_icmp_lt 148 (by decide) 108 rfl dX10_goes_105 ?_ ?_
          · refine g_sub [(0, .ref (wA Ω 0)), (1, .int p0), (2, .int p1), (3, .int a6.1), (4, .int x3), (5, .int a6.2.1), (6, .int a8)] [3, 4, 5, 6, 7, 8, 2] rfl ?_
            exact hk18 (a6.1, a6.2.2)
          · refine g_aload_n 3 rfl rfl 109 rfl dX10_goes_108 ?_
            refine g_dup 110 rfl dX10_goes_109 rfl ?_
            refine w_get (lm_0 hX) rfl in_X10 19 (by decide) wf_X10_191 rfl 113 rfl dX10_goes_110 ?_
            refine g_iconst 1 114 rfl dX10_goes_113 (by decide) ?_
            refine g_iadd 115 rfl dX10_goes_114 ?_
            refine w_put (lm_0 hX) rfl in_X10 19 (by decide) wf_X10_191 tyX10 tyX10_ok nmX10 rfl rfl rfl rfl 118 rfl dX10_goes_115 ?_
            intro M28
            refine g_aload_n 3 rfl rfl 119 rfl dX10_goes_118 ?_
            refine g_dup 120 rfl dX10_goes_119 rfl ?_
            refine w_get (lm_0 hX) rfl in_X10 20 (by decide) wf_X10_194 rfl 123 rfl dX10_goes_120 ?_
            refine g_aload_n 3 rfl rfl 124 rfl dX10_goes_123 ?_
            refine w_getR (lm_0 hX) rfl in_X10 1 (by decide) wf_X10_9 1 rfl 127 rfl dX10_goes_124 ?_
            refine g_iconst 0 128 rfl dX10_goes_127 (by decide) ?_
            refine w_iald (lm_1 hX) 129 rfl dX10_goes_128 ?_
            refine g_iload 0 rfl 131 rfl dX10_goes_129 ?_
            refine g_isub 132 rfl dX10_goes_131 ?_
            refine g_iadd 133 rfl dX10_goes_132 ?_
            refine w_put (lm_0 hX) rfl in_X10 20 (by decide) wf_X10_194 tyX10 tyX10_ok nmX10 rfl rfl rfl rfl 136 rfl dX10_goes_133 ?_
            intro M29
            refine g_iload_n 6 rfl rfl 137 rfl dX10_goes_136 ?_
            refine g_aload_n 3 rfl rfl 138 rfl dX10_goes_137 ?_
            refine w_getR (lm_0 hX) rfl in_X10 1 (by decide) wf_X10_9 1 rfl 141 rfl dX10_goes_138 ?_
            refine g_iconst 0 142 rfl dX10_goes_141 (by decide) ?_
            refine w_iald (lm_1 hX) 143 rfl dX10_goes_142 ?_
            refine g_iload 0 rfl 145 rfl dX10_goes_143 ?_
            refine g_isub 146 rfl dX10_goes_145 ?_
            refine g_iadd 147 rfl dX10_goes_146 ?_
            refine g_istore_n (fun x30 => [(3, .int x30), (8, .int x14), (7, .int x10), (6, .int a8), (0, .ref (wA Ω 0)), (1, .int p0), (2, .int p1), (4, .int x3), (5, .int a6.2.1)]) rfl 148 rfl dX10_goes_147 (by decide) (fun _ => rfl) ?_
            intro x30
            refine g_sub [(0, .ref (wA Ω 0)), (1, .int p0), (2, .int p1), (3, .int x30), (4, .int x3), (5, .int a6.2.1), (6, .int a8)] [4, 5, 6, 0, 7, 8, 3] rfl ?_
            exact hk18 (x30, M29)
      · intro k9 hk9
        refine g_if_ne 39 (by decide) 34 rfl dX10_goes_31 ?_ ?_
        · refine g_iload 5 rfl 36 rfl dX10_goes_34 ?_
          refine g_goto 46 (by decide) dX10_goes_36 ?_
          exact hk9 a6.2.1
        · refine g_iload 4 rfl 41 rfl dX10_goes_39 ?_
          refine g_iconst 1 42 rfl dX10_goes_41 (by decide) ?_
          refine g_isub 43 rfl dX10_goes_42 ?_
          refine g_iload 5 rfl 45 rfl dX10_goes_43 ?_
          refine g_isub 46 rfl dX10_goes_45 ?_
          exact hk9 ((x3 - 1) - a6.2.1)
def fX10_trip (M : Mem) (p0 : Int32) (p1 : Int32) (p2 : Int32) : Option (Int32 × Mem) := bnd (mset M 0 0 0) (fun M1 => clp (fX10_in M1 p0 0 1) (fun x2 => jn (fun (a3 : Unit) => cl (fX10_raises M1 1) (fun x5 M6 => some (x5, M6))) (fun k4 => if x2 = 0 then (k4 ()) else (clp (fX10_in M1 p1 0 99999) (fun x7 => if x7 = 0 then (k4 ()) else (clp (fX10_in M1 p2 0 2) (fun x8 => if x8 = 0 then (k4 ()) else (clp (fX10_isPossible M1 p0) (fun x9 => if x9 = 0 then (cl (fX10_raises M1 2) (fun x14 M15 => some (x14, M15))) else (cl (fX10_goes M1 p0 p1) (fun x10 M11 => jn (fun (a12 : Int32) => some (a12, M11)) (fun k13 => if p2 = 0 then (k13 x10) else (if p2 = 1 then (k13 (M11 0 19)) else (k13 (M11 0 20)))))))))))))))
set_option maxRecDepth 100000 in
set_option maxHeartbeats 4000000 in
theorem c_X10_trip {Ω : Wd} (l : Launch) (hO : OkW Ω) (hX : LM Ω)  (M : Mem) (p0 : Int32) (p1 : Int32) (p2 : Int32) : ∀ r, fX10_trip M p0 p1 p2 = some r → Ct l yX10_trip (.code yX10_trip cX10_trip 5 (some .int)) 4 96 Ω [.ref (wA Ω 0), .int p0, .int p1, .int p2] M (cvI r) := by
  refine ofG [(0, .ref (wA Ω 0)), (1, .int p0), (2, .int p1), (3, .int p2)] hO (by decide) rfl (Nat.le_of_ble_eq_true rfl) rfl ?_
  intro p e s m args below meth c
  unfold fX10_trip
  refine g_aload_n 0 rfl rfl 1 rfl dX10_trip_0 ?_
  refine g_iconst 0 2 rfl dX10_trip_1 (by decide) ?_
  refine w_put (lm_0 hX) rfl in_X10 0 (by decide) wf_X10_47 tyX10 tyX10_ok nmX10 rfl rfl rfl rfl 5 rfl dX10_trip_2 ?_
  intro M1
  refine g_iload_n 1 rfl rfl 6 rfl dX10_trip_5 ?_
  refine g_iconst 0 7 rfl dX10_trip_6 (by decide) ?_
  refine g_iconst 1 8 rfl dX10_trip_7 (by decide) ?_
  refine p_cSI [.int p0, .int 0, .int 1] [] (c_X10_in l hO M1 p0 0 1) dX10_trip_8 us_X10_70 rfl yk_X10_in ⟨by decide, by decide⟩ (Nat.le_of_ble_eq_true rfl) rfl 11 rfl ?_
  intro x2
  refine g_join 33 (fun a3 => [(0, .ref (wA Ω 0))]) (fun a3 => []) (fun a3 => M1) ?_ ?_
  · intro a3
    refine g_aload_n 0 rfl rfl 34 rfl dX10_trip_33 ?_
    refine g_iconst 1 35 rfl dX10_trip_34 (by decide) ?_
    refine g_cVI 0 [.int 1] [] (c_X10_raises l hO hX M1 1) dX10_trip_35 uv_X10_53 rfl yk_X10_raises ⟨by decide, by decide⟩ (lm_0 hX).1 (lm_0 hX).2 rfl (Nat.le_of_ble_eq_true rfl) rfl 38 rfl ?_
    intro x5 M6
    exact g_iret rfl dX10_trip_38
  · intro k4 hk4
    refine g_if_eq 33 (by decide) 14 rfl dX10_trip_11 ?_ ?_
    · refine g_sub [(0, .ref (wA Ω 0))] [0] rfl ?_
      exact hk4 ()
    · refine g_iload_n 2 rfl rfl 15 rfl dX10_trip_14 ?_
      refine g_iconst 0 16 rfl dX10_trip_15 (by decide) ?_
      refine g_ldc 99999 wq_X10_200 18 rfl dX10_trip_16 ?_
      refine p_cSI [.int p1, .int 0, .int 99999] [] (c_X10_in l hO M1 p1 0 99999) dX10_trip_18 us_X10_70 rfl yk_X10_in ⟨by decide, by decide⟩ (Nat.le_of_ble_eq_true rfl) rfl 21 rfl ?_
      intro x7
      refine g_if_eq 33 (by decide) 24 rfl dX10_trip_21 ?_ ?_
      · refine g_sub [(0, .ref (wA Ω 0))] [0] rfl ?_
        exact hk4 ()
      · refine g_iload_n 3 rfl rfl 25 rfl dX10_trip_24 ?_
        refine g_iconst 0 26 rfl dX10_trip_25 (by decide) ?_
        refine g_iconst 2 27 rfl dX10_trip_26 (by decide) ?_
        refine p_cSI [.int p2, .int 0, .int 2] [] (c_X10_in l hO M1 p2 0 2) dX10_trip_27 us_X10_70 rfl yk_X10_in ⟨by decide, by decide⟩ (Nat.le_of_ble_eq_true rfl) rfl 30 rfl ?_
        intro x8
        refine g_if_ne 39 (by decide) 33 rfl dX10_trip_30 ?_ ?_
        · refine g_sub [(0, .ref (wA Ω 0))] [0] rfl ?_
          exact hk4 ()
        · refine g_aload_n 0 rfl rfl 40 rfl dX10_trip_39 ?_
          refine g_iload_n 1 rfl rfl 41 rfl dX10_trip_40 ?_
          refine p_cVI 0 [.int p0] [] (c_X10_isPossible l hO hX M1 p0) dX10_trip_41 uv_X10_201 rfl yk_X10_isPossible ⟨by decide, by decide⟩ (lm_0 hX).1 (lm_0 hX).2 rfl (Nat.le_of_ble_eq_true rfl) rfl 44 rfl ?_
          intro x9
          refine g_if_ne 53 (by decide) 47 rfl dX10_trip_44 ?_ ?_
          · refine g_aload_n 0 rfl rfl 48 rfl dX10_trip_47 ?_
            refine g_iconst 2 49 rfl dX10_trip_48 (by decide) ?_
            refine g_cVI 0 [.int 2] [] (c_X10_raises l hO hX M1 2) dX10_trip_49 uv_X10_53 rfl yk_X10_raises ⟨by decide, by decide⟩ (lm_0 hX).1 (lm_0 hX).2 rfl (Nat.le_of_ble_eq_true rfl) rfl 52 rfl ?_
            intro x14 M15
            exact g_iret rfl dX10_trip_52
          · refine g_aload_n 0 rfl rfl 54 rfl dX10_trip_53 ?_
            refine g_iload_n 1 rfl rfl 55 rfl dX10_trip_54 ?_
            refine g_iload_n 2 rfl rfl 56 rfl dX10_trip_55 ?_
            refine g_cVI 0 [.int p0, .int p1] [] (c_X10_goes l hO hX M1 p0 p1) dX10_trip_56 uv_X10_204 rfl yk_X10_goes ⟨by decide, by decide⟩ (lm_0 hX).1 (lm_0 hX).2 rfl (Nat.le_of_ble_eq_true rfl) rfl 59 rfl ?_
            intro x10 M11
            refine g_istoreA [(4, .int x10), (0, .ref (wA Ω 0)), (1, .int p0), (2, .int p1), (3, .int p2)] 61 rfl dX10_trip_59 (by decide) rfl ?_
            refine g_iload_n 4 rfl rfl 62 rfl dX10_trip_61 ?_
            refine g_join 86 (fun a12 => []) (fun a12 => [.int a12]) (fun a12 => M11) ?_ ?_
            · intro a12
              exact g_iret rfl dX10_trip_86
            · intro k13 hk13
              refine g_if_ne 70 (by decide) 65 rfl dX10_trip_62 ?_ ?_
              · refine g_iload 0 rfl 67 rfl dX10_trip_65 ?_
                refine g_goto 86 (by decide) dX10_trip_67 ?_
                refine g_sub [] [] rfl ?_
                exact hk13 x10
              · refine g_iload_n 4 rfl rfl 71 rfl dX10_trip_70 ?_
                refine g_iconst 1 72 rfl dX10_trip_71 (by decide) ?_
                refine g_icmp_ne 82 (by decide) 75 rfl dX10_trip_72 ?_ ?_
                · refine g_aload_n 1 rfl rfl 76 rfl dX10_trip_75 ?_
                  refine w_get (lm_0 hX) rfl in_X10 19 (by decide) wf_X10_191 rfl 79 rfl dX10_trip_76 ?_
                  refine g_goto 86 (by decide) dX10_trip_79 ?_
                  refine g_sub [] [] rfl ?_
                  exact hk13 (M11 0 19)
                · refine g_aload_n 1 rfl rfl 83 rfl dX10_trip_82 ?_
                  refine w_get (lm_0 hX) rfl in_X10 20 (by decide) wf_X10_194 rfl 86 rfl dX10_trip_83 ?_
                  refine g_sub [] [] rfl ?_
                  exact hk13 (M11 0 20)
def fX10_tripAgain (M : Mem) (p0 : Int32) (p1 : Int32) : Option (Int32 × Mem) := bnd (mset M 0 0 0) (fun M1 => clp (fX10_in M1 p0 0 1) (fun x2 => jn (fun (a3 : Unit) => cl (fX10_raises M1 1) (fun x5 M6 => some (x5, M6))) (fun k4 => if x2 = 0 then (k4 ()) else (clp (fX10_in M1 p1 0 99999) (fun x7 => if x7 = 0 then (k4 ()) else (clp (fX10_isPossible M1 p0) (fun x8 => jn (fun (a9 : Int32 × Mem) => some (a9.1, a9.2)) (fun k10 => if x8 = 0 then (cl (fX10_raises M1 2) (fun x11 M12 => k10 (x11, M12))) else (cl (fX10_goes M1 p0 p1) (fun x13 M14 => k10 (x13, M14)))))))))))
set_option maxRecDepth 100000 in
set_option maxHeartbeats 4000000 in
theorem c_X10_tripAgain {Ω : Wd} (l : Launch) (hO : OkW Ω) (hX : LM Ω)  (M : Mem) (p0 : Int32) (p1 : Int32) : ∀ r, fX10_tripAgain M p0 p1 = some r → Ct l yX10_tripAgain (.code yX10_tripAgain cX10_tripAgain 3 (some .int)) 4 96 Ω [.ref (wA Ω 0), .int p0, .int p1] M (cvI r) := by
  refine ofG [(0, .ref (wA Ω 0)), (1, .int p0), (2, .int p1)] hO (by decide) rfl (Nat.le_of_ble_eq_true rfl) rfl ?_
  intro p e s m args below meth c
  unfold fX10_tripAgain
  refine g_aload_n 0 rfl rfl 1 rfl dX10_tripAgain_0 ?_
  refine g_iconst 0 2 rfl dX10_tripAgain_1 (by decide) ?_
  refine w_put (lm_0 hX) rfl in_X10 0 (by decide) wf_X10_47 tyX10 tyX10_ok nmX10 rfl rfl rfl rfl 5 rfl dX10_tripAgain_2 ?_
  intro M1
  refine g_iload_n 1 rfl rfl 6 rfl dX10_tripAgain_5 ?_
  refine g_iconst 0 7 rfl dX10_tripAgain_6 (by decide) ?_
  refine g_iconst 1 8 rfl dX10_tripAgain_7 (by decide) ?_
  refine p_cSI [.int p0, .int 0, .int 1] [] (c_X10_in l hO M1 p0 0 1) dX10_tripAgain_8 us_X10_70 rfl yk_X10_in ⟨by decide, by decide⟩ (Nat.le_of_ble_eq_true rfl) rfl 11 rfl ?_
  intro x2
  refine g_join 24 (fun a3 => [(0, .ref (wA Ω 0))]) (fun a3 => []) (fun a3 => M1) ?_ ?_
  · intro a3
    refine g_aload_n 0 rfl rfl 25 rfl dX10_tripAgain_24 ?_
    refine g_iconst 1 26 rfl dX10_tripAgain_25 (by decide) ?_
    refine g_cVI 0 [.int 1] [] (c_X10_raises l hO hX M1 1) dX10_tripAgain_26 uv_X10_53 rfl yk_X10_raises ⟨by decide, by decide⟩ (lm_0 hX).1 (lm_0 hX).2 rfl (Nat.le_of_ble_eq_true rfl) rfl 29 rfl ?_
    intro x5 M6
    exact g_iret rfl dX10_tripAgain_29
  · intro k4 hk4
    refine g_if_eq 24 (by decide) 14 rfl dX10_tripAgain_11 ?_ ?_
    · refine g_sub [(0, .ref (wA Ω 0))] [0] rfl ?_
      exact hk4 ()
    · refine g_iload_n 2 rfl rfl 15 rfl dX10_tripAgain_14 ?_
      refine g_iconst 0 16 rfl dX10_tripAgain_15 (by decide) ?_
      refine g_ldc 99999 wq_X10_200 18 rfl dX10_tripAgain_16 ?_
      refine p_cSI [.int p1, .int 0, .int 99999] [] (c_X10_in l hO M1 p1 0 99999) dX10_tripAgain_18 us_X10_70 rfl yk_X10_in ⟨by decide, by decide⟩ (Nat.le_of_ble_eq_true rfl) rfl 21 rfl ?_
      intro x7
      refine g_if_ne 30 (by decide) 24 rfl dX10_tripAgain_21 ?_ ?_
      · refine g_sub [(0, .ref (wA Ω 0))] [0] rfl ?_
        exact hk4 ()
      · refine g_aload_n 0 rfl rfl 31 rfl dX10_tripAgain_30 ?_
        refine g_iload_n 1 rfl rfl 32 rfl dX10_tripAgain_31 ?_
        refine p_cVI 0 [.int p0] [] (c_X10_isPossible l hO hX M1 p0) dX10_tripAgain_32 uv_X10_201 rfl yk_X10_isPossible ⟨by decide, by decide⟩ (lm_0 hX).1 (lm_0 hX).2 rfl (Nat.le_of_ble_eq_true rfl) rfl 35 rfl ?_
        intro x8
        refine g_join 52 (fun a9 => []) (fun a9 => [.int a9.1]) (fun a9 => a9.2) ?_ ?_
        · intro a9
          exact g_iret rfl dX10_tripAgain_52
        · intro k10 hk10
          refine g_if_eq 47 (by decide) 38 rfl dX10_tripAgain_35 ?_ ?_
          · refine g_aload_n 0 rfl rfl 48 rfl dX10_tripAgain_47 ?_
            refine g_iconst 2 49 rfl dX10_tripAgain_48 (by decide) ?_
            refine g_cVI 0 [.int 2] [] (c_X10_raises l hO hX M1 2) dX10_tripAgain_49 uv_X10_53 rfl yk_X10_raises ⟨by decide, by decide⟩ (lm_0 hX).1 (lm_0 hX).2 rfl (Nat.le_of_ble_eq_true rfl) rfl 52 rfl ?_
            intro x11 M12
            refine g_sub [] [] rfl ?_
            exact hk10 (x11, M12)
          · refine g_aload_n 0 rfl rfl 39 rfl dX10_tripAgain_38 ?_
            refine g_iload_n 1 rfl rfl 40 rfl dX10_tripAgain_39 ?_
            refine g_iload_n 2 rfl rfl 41 rfl dX10_tripAgain_40 ?_
            refine g_cVI 0 [.int p0, .int p1] [] (c_X10_goes l hO hX M1 p0 p1) dX10_tripAgain_41 uv_X10_204 rfl yk_X10_goes ⟨by decide, by decide⟩ (lm_0 hX).1 (lm_0 hX).2 rfl (Nat.le_of_ble_eq_true rfl) rfl 44 rfl ?_
            intro x13 M14
            refine g_goto 52 (by decide) dX10_tripAgain_44 ?_
            refine g_sub [] [] rfl ?_
            exact hk10 (x13, M14)
def fX10_bands_L1 (p0 : Int32) (k2 : (Int32 × Int32 × Mem) → Option (Int32 × Mem)) (a1 : Int32 × Int32 × Mem) : Option (Int32 × Mem) := grd (inb 0 490) (if a1.2.2 1 (0 : Int32).toNatClampNeg ≤ a1.2.1 then (some (a1.1, a1.2.2)) else (cl (fX10_goes a1.2.2 p0 a1.2.1) (fun x3 M4 => jn (fun (a5 : Int32) => bnd (a1.2.1 + 1) (fun x7 => k2 (a5, x7, M4))) (fun k6 => if M4 0 19 = 0 then (bnd (a1.1 + 1) (fun x8 => k6 x8)) else (k6 a1.1)))))
def fX10_bands (M : Mem) (p0 : Int32) : Option (Int32 × Mem) := lp (fX10_bands_L1 p0) FU (0, 0, M)
set_option maxRecDepth 100000 in
set_option maxHeartbeats 4000000 in
theorem c_X10_bands {Ω : Wd} (l : Launch) (hO : OkW Ω) (hX : LM Ω)  (M : Mem) (p0 : Int32) : ∀ r, fX10_bands M p0 = some r → Ct l yX10_bands (.code yX10_bands cX10_bands 5 (some .int)) 4 96 Ω [.ref (wA Ω 0), .int p0] M (cvI r) := by
  refine ofG [(0, .ref (wA Ω 0)), (1, .int p0)] hO (by decide) rfl (Nat.le_of_ble_eq_true rfl) rfl ?_
  intro p e s m args below meth c
  unfold fX10_bands
  refine g_iconst 0 1 rfl dX10_bands_0 (by decide) ?_
  refine g_istore_nA [(2, .int 0), (0, .ref (wA Ω 0)), (1, .int p0)] rfl 2 rfl dX10_bands_1 (by decide) rfl ?_
  refine g_iconst 0 3 rfl dX10_bands_2 (by decide) ?_
  refine g_istore_nA [(3, .int 0), (2, .int 0), (0, .ref (wA Ω 0)), (1, .int p0)] rfl 4 rfl dX10_bands_3 (by decide) rfl ?_
  refine g_sub [(0, .ref (wA Ω 0)), (1, .int p0), (2, .int 0), (3, .int 0)] [2, 3, 1, 0] rfl ?_
  refine g_loop 4 (fun a1 => [(0, .ref (wA Ω 0)), (1, .int p0), (2, .int a1.1), (3, .int a1.2.1)]) (fun _ => []) (fun a1 => a1.2.2) ?_ FU (0, 0, M)
  intro k2 hk2 a1
  unfold fX10_bands_L1
  refine g_iload_n 3 rfl rfl 5 rfl dX10_bands_4 ?_
  refine g_aload_n 0 rfl rfl 6 rfl dX10_bands_5 ?_
  refine w_getR (lm_0 hX) rfl in_X10 1 (by decide) wf_X10_9 1 rfl 9 rfl dX10_bands_6 ?_
  refine g_iconst 0 10 rfl dX10_bands_9 (by decide) ?_
  refine w_iald (lm_1 hX) 11 rfl dX10_bands_10 ?_
  refine g_icmp_ge 38 (by decide) 14 rfl dX10_bands_11 ?_ ?_
  · refine g_iload_n 2 rfl rfl 39 rfl dX10_bands_38 ?_
    exact g_iret rfl dX10_bands_39
  · refine g_aload_n 0 rfl rfl 15 rfl dX10_bands_14 ?_
    refine g_iload_n 1 rfl rfl 16 rfl dX10_bands_15 ?_
    refine g_iload_n 3 rfl rfl 17 rfl dX10_bands_16 ?_
    refine g_cVI 0 [.int p0, .int a1.2.1] [] (c_X10_goes l hO hX a1.2.2 p0 a1.2.1) dX10_bands_17 uv_X10_204 rfl yk_X10_goes ⟨by decide, by decide⟩ (lm_0 hX).1 (lm_0 hX).2 rfl (Nat.le_of_ble_eq_true rfl) rfl 20 rfl ?_
    intro x3 M4
    refine g_istoreA [(4, .int x3), (0, .ref (wA Ω 0)), (1, .int p0), (2, .int a1.1), (3, .int a1.2.1)] 22 rfl dX10_bands_20 (by decide) rfl ?_
    refine g_aload_n 1 rfl rfl 23 rfl dX10_bands_22 ?_
    refine w_get (lm_0 hX) rfl in_X10 19 (by decide) wf_X10_191 rfl 26 rfl dX10_bands_23 ?_
    refine g_join 32 (fun a5 => [(0, .ref (wA Ω 0)), (1, .int p0), (2, .int a5), (3, .int a1.2.1)]) (fun a5 => []) (fun a5 => M4) ?_ ?_
    · intro a5
      refine g_iinc 3 rfl 1 (by decide) (fun x7 => [(3, .int x7), (0, .ref (wA Ω 0)), (1, .int p0), (2, .int a5)]) 35 rfl dX10_bands_32 (by decide) (fun _ => rfl) ?_
      intro x7
      refine g_goto 4 (by decide) dX10_bands_35 ?_
      refine g_sub [(0, .ref (wA Ω 0)), (1, .int p0), (2, .int a5), (3, .int x7)] [1, 2, 3, 0] rfl ?_
      exact hk2 (a5, x7, M4)
    · intro k6 hk6
      refine g_if_ne 32 (by decide) 29 rfl dX10_bands_26 ?_ ?_
      · refine g_iinc 3 rfl 1 (by decide) (fun x8 => [(2, .int x8), (4, .int x3), (0, .ref (wA Ω 0)), (1, .int p0), (3, .int a1.2.1)]) 32 rfl dX10_bands_29 (by decide) (fun _ => rfl) ?_
        intro x8
        refine g_sub [(0, .ref (wA Ω 0)), (1, .int p0), (2, .int x8), (3, .int a1.2.1)] [2, 3, 0, 4] rfl ?_
        exact hk6 x8
      · refine g_sub [(0, .ref (wA Ω 0)), (1, .int p0), (2, .int a1.1), (3, .int a1.2.1)] [1, 2, 3, 4] rfl ?_
        exact hk6 a1.1
def fX10_band (M : Mem) (p0 : Int32) : Option (Int32 × Mem) := bnd (mset M 0 0 0) (fun M1 => clp (fX10_in M1 p0 0 1) (fun x2 => if x2 = 0 then (cl (fX10_raises M1 1) (fun x10 M11 => some (x10, M11))) else (clp (fX10_isPossible M1 p0) (fun x3 => jn (fun (a4 : Int32 × Mem) => some (a4.1, a4.2)) (fun k5 => if x3 = 0 then (cl (fX10_raises M1 2) (fun x6 M7 => k5 (x6, M7))) else (cl (fX10_bands M1 p0) (fun x8 M9 => k5 (x8, M9))))))))
set_option maxRecDepth 100000 in
set_option maxHeartbeats 4000000 in
theorem c_X10_band {Ω : Wd} (l : Launch) (hO : OkW Ω) (hX : LM Ω)  (M : Mem) (p0 : Int32) : ∀ r, fX10_band M p0 = some r → Ct l yX10_band (.code yX10_band cX10_band 2 (some .int)) 5 120 Ω [.ref (wA Ω 0), .int p0] M (cvI r) := by
  refine ofG [(0, .ref (wA Ω 0)), (1, .int p0)] hO (by decide) rfl (Nat.le_of_ble_eq_true rfl) rfl ?_
  intro p e s m args below meth c
  unfold fX10_band
  refine g_aload_n 0 rfl rfl 1 rfl dX10_band_0 ?_
  refine g_iconst 0 2 rfl dX10_band_1 (by decide) ?_
  refine w_put (lm_0 hX) rfl in_X10 0 (by decide) wf_X10_47 tyX10 tyX10_ok nmX10 rfl rfl rfl rfl 5 rfl dX10_band_2 ?_
  intro M1
  refine g_iload_n 1 rfl rfl 6 rfl dX10_band_5 ?_
  refine g_iconst 0 7 rfl dX10_band_6 (by decide) ?_
  refine g_iconst 1 8 rfl dX10_band_7 (by decide) ?_
  refine p_cSI [.int p0, .int 0, .int 1] [] (c_X10_in l hO M1 p0 0 1) dX10_band_8 us_X10_70 rfl yk_X10_in ⟨by decide, by decide⟩ (Nat.le_of_ble_eq_true rfl) rfl 11 rfl ?_
  intro x2
  refine g_if_ne 20 (by decide) 14 rfl dX10_band_11 ?_ ?_
  · refine g_aload_n 0 rfl rfl 15 rfl dX10_band_14 ?_
    refine g_iconst 1 16 rfl dX10_band_15 (by decide) ?_
    refine g_cVI 0 [.int 1] [] (c_X10_raises l hO hX M1 1) dX10_band_16 uv_X10_53 rfl yk_X10_raises ⟨by decide, by decide⟩ (lm_0 hX).1 (lm_0 hX).2 rfl (Nat.le_of_ble_eq_true rfl) rfl 19 rfl ?_
    intro x10 M11
    exact g_iret rfl dX10_band_19
  · refine g_aload_n 0 rfl rfl 21 rfl dX10_band_20 ?_
    refine g_iload_n 1 rfl rfl 22 rfl dX10_band_21 ?_
    refine p_cVI 0 [.int p0] [] (c_X10_isPossible l hO hX M1 p0) dX10_band_22 uv_X10_201 rfl yk_X10_isPossible ⟨by decide, by decide⟩ (lm_0 hX).1 (lm_0 hX).2 rfl (Nat.le_of_ble_eq_true rfl) rfl 25 rfl ?_
    intro x3
    refine g_join 41 (fun a4 => []) (fun a4 => [.int a4.1]) (fun a4 => a4.2) ?_ ?_
    · intro a4
      exact g_iret rfl dX10_band_41
    · intro k5 hk5
      refine g_if_eq 36 (by decide) 28 rfl dX10_band_25 ?_ ?_
      · refine g_aload_n 0 rfl rfl 37 rfl dX10_band_36 ?_
        refine g_iconst 2 38 rfl dX10_band_37 (by decide) ?_
        refine g_cVI 0 [.int 2] [] (c_X10_raises l hO hX M1 2) dX10_band_38 uv_X10_53 rfl yk_X10_raises ⟨by decide, by decide⟩ (lm_0 hX).1 (lm_0 hX).2 rfl (Nat.le_of_ble_eq_true rfl) rfl 41 rfl ?_
        intro x6 M7
        refine g_sub [] [] rfl ?_
        exact hk5 (x6, M7)
      · refine g_aload_n 0 rfl rfl 29 rfl dX10_band_28 ?_
        refine g_iload_n 1 rfl rfl 30 rfl dX10_band_29 ?_
        refine g_cVI 0 [.int p0] [] (c_X10_bands l hO hX M1 p0) dX10_band_30 uv_X10_207 rfl yk_X10_bands ⟨by decide, by decide⟩ (lm_0 hX).1 (lm_0 hX).2 rfl (Nat.le_of_ble_eq_true rfl) rfl 33 rfl ?_
        intro x8 M9
        refine g_goto 41 (by decide) dX10_band_33 ?_
        refine g_sub [] [] rfl ?_
        exact hk5 (x8, M9)
def fX10_bestOffset_L1 (p0 : Int32) (p1 : Int32) (k7 : (Int32 × Mem) → Option (Int32 × Mem)) (k11 : (Int32 × Int32 × Int32 × Mem) → Option (Int32 × Mem)) (a10 : Int32 × Int32 × Int32 × Mem) : Option (Int32 × Mem) := grd (inb 0 490) (if a10.2.2.2 1 (0 : Int32).toNatClampNeg ≤ a10.2.2.1 then (k7 (a10.1, a10.2.2.2)) else (clp (fX10_at a10.2.2.2 p0) (fun x12 => grd (inb (x12 + 1) 490) (bnd (mset a10.2.2.2 1 (x12 + 1).toNatClampNeg a10.2.2.1) (fun M13 => cl (fX10_bands M13 p1) (fun x14 M15 => jn (fun (a16 : Int32 × Int32) => bnd (a10.2.2.1 + 1) (fun x18 => k11 (a16.1, a16.2, x18, M15))) (fun k17 => if a10.2.1 < x14 then (k17 (a10.2.2.1, x14)) else (k17 (a10.1, a10.2.1)))))))))
def fX10_bestOffset (M : Mem) (p0 : Int32) (p1 : Int32) : Option (Int32 × Mem) := bnd (mset M 0 0 0) (fun M1 => clp (fX10_isJunction M1 p0) (fun x2 => if x2 = 0 then (cl (fX10_raises M1 1) (fun x23 M24 => some (x23, M24))) else (clp (fX10_in M1 p1 0 1) (fun x3 => if x3 = 0 then (cl (fX10_raises M1 2) (fun x21 M22 => some (x21, M22))) else (clp (fX10_isPossible M1 p1) (fun x4 => if x4 = 0 then (cl (fX10_raises M1 3) (fun x19 M20 => some (x19, M20))) else (clp (fX10_of M1 p0 1) (fun x5 => jn (fun (a6 : Int32 × Mem) => clp (fX10_at a6.2 p0) (fun x8 => grd (inb (x8 + 1) 490) (bnd (mset a6.2 1 (x8 + 1).toNatClampNeg x5) (fun M9 => some (a6.1, M9))))) (fun k7 => lp (fX10_bestOffset_L1 p0 p1 k7) FU (0, (-1), 0, M1))))))))))
set_option maxRecDepth 100000 in
set_option maxHeartbeats 4000000 in
theorem c_X10_bestOffset {Ω : Wd} (l : Launch) (hO : OkW Ω) (hX : LM Ω)  (M : Mem) (p0 : Int32) (p1 : Int32) : ∀ r, fX10_bestOffset M p0 p1 = some r → Ct l yX10_bestOffset (.code yX10_bestOffset cX10_bestOffset 8 (some .int)) 5 120 Ω [.ref (wA Ω 0), .int p0, .int p1] M (cvI r) := by
  refine ofG [(0, .ref (wA Ω 0)), (1, .int p0), (2, .int p1)] hO (by decide) rfl (Nat.le_of_ble_eq_true rfl) rfl ?_
  intro p e s m args below meth c
  unfold fX10_bestOffset
  refine g_aload_n 0 rfl rfl 1 rfl dX10_bestOffset_0 ?_
  refine g_iconst 0 2 rfl dX10_bestOffset_1 (by decide) ?_
  refine w_put (lm_0 hX) rfl in_X10 0 (by decide) wf_X10_47 tyX10 tyX10_ok nmX10 rfl rfl rfl rfl 5 rfl dX10_bestOffset_2 ?_
  intro M1
  refine g_aload_n 0 rfl rfl 6 rfl dX10_bestOffset_5 ?_
  refine g_iload_n 1 rfl rfl 7 rfl dX10_bestOffset_6 ?_
  refine p_cVI 0 [.int p0] [] (c_X10_isJunction l hO hX M1 p0) dX10_bestOffset_7 uv_X10_74 rfl yk_X10_isJunction ⟨by decide, by decide⟩ (lm_0 hX).1 (lm_0 hX).2 rfl (Nat.le_of_ble_eq_true rfl) rfl 10 rfl ?_
  intro x2
  refine g_if_ne 19 (by decide) 13 rfl dX10_bestOffset_10 ?_ ?_
  · refine g_aload_n 0 rfl rfl 14 rfl dX10_bestOffset_13 ?_
    refine g_iconst 1 15 rfl dX10_bestOffset_14 (by decide) ?_
    refine g_cVI 0 [.int 1] [] (c_X10_raises l hO hX M1 1) dX10_bestOffset_15 uv_X10_53 rfl yk_X10_raises ⟨by decide, by decide⟩ (lm_0 hX).1 (lm_0 hX).2 rfl (Nat.le_of_ble_eq_true rfl) rfl 18 rfl ?_
    intro x23 M24
    exact g_iret rfl dX10_bestOffset_18
  · refine g_iload_n 2 rfl rfl 20 rfl dX10_bestOffset_19 ?_
    refine g_iconst 0 21 rfl dX10_bestOffset_20 (by decide) ?_
    refine g_iconst 1 22 rfl dX10_bestOffset_21 (by decide) ?_
    refine p_cSI [.int p1, .int 0, .int 1] [] (c_X10_in l hO M1 p1 0 1) dX10_bestOffset_22 us_X10_70 rfl yk_X10_in ⟨by decide, by decide⟩ (Nat.le_of_ble_eq_true rfl) rfl 25 rfl ?_
    intro x3
    refine g_if_ne 34 (by decide) 28 rfl dX10_bestOffset_25 ?_ ?_
    · refine g_aload_n 0 rfl rfl 29 rfl dX10_bestOffset_28 ?_
      refine g_iconst 2 30 rfl dX10_bestOffset_29 (by decide) ?_
      refine g_cVI 0 [.int 2] [] (c_X10_raises l hO hX M1 2) dX10_bestOffset_30 uv_X10_53 rfl yk_X10_raises ⟨by decide, by decide⟩ (lm_0 hX).1 (lm_0 hX).2 rfl (Nat.le_of_ble_eq_true rfl) rfl 33 rfl ?_
      intro x21 M22
      exact g_iret rfl dX10_bestOffset_33
    · refine g_aload_n 0 rfl rfl 35 rfl dX10_bestOffset_34 ?_
      refine g_iload_n 2 rfl rfl 36 rfl dX10_bestOffset_35 ?_
      refine p_cVI 0 [.int p1] [] (c_X10_isPossible l hO hX M1 p1) dX10_bestOffset_36 uv_X10_201 rfl yk_X10_isPossible ⟨by decide, by decide⟩ (lm_0 hX).1 (lm_0 hX).2 rfl (Nat.le_of_ble_eq_true rfl) rfl 39 rfl ?_
      intro x4
      refine g_if_ne 48 (by decide) 42 rfl dX10_bestOffset_39 ?_ ?_
      · refine g_aload_n 0 rfl rfl 43 rfl dX10_bestOffset_42 ?_
        refine g_iconst 3 44 rfl dX10_bestOffset_43 (by decide) ?_
        refine g_cVI 0 [.int 3] [] (c_X10_raises l hO hX M1 3) dX10_bestOffset_44 uv_X10_53 rfl yk_X10_raises ⟨by decide, by decide⟩ (lm_0 hX).1 (lm_0 hX).2 rfl (Nat.le_of_ble_eq_true rfl) rfl 47 rfl ?_
        intro x19 M20
        exact g_iret rfl dX10_bestOffset_47
      · refine g_aload_n 0 rfl rfl 49 rfl dX10_bestOffset_48 ?_
        refine g_iload_n 1 rfl rfl 50 rfl dX10_bestOffset_49 ?_
        refine g_iconst 1 51 rfl dX10_bestOffset_50 (by decide) ?_
        refine p_cVI 0 [.int p0, .int 1] [] (c_X10_of l hO hX M1 p0 1) dX10_bestOffset_51 uv_X10_78 rfl yk_X10_of ⟨by decide, by decide⟩ (lm_0 hX).1 (lm_0 hX).2 rfl (Nat.le_of_ble_eq_true rfl) rfl 54 rfl ?_
        intro x5
        refine g_istore_nA [(3, .int x5), (0, .ref (wA Ω 0)), (1, .int p0), (2, .int p1)] rfl 55 rfl dX10_bestOffset_54 (by decide) rfl ?_
        refine g_iconst 0 56 rfl dX10_bestOffset_55 (by decide) ?_
        refine g_istoreA [(4, .int 0), (3, .int x5), (0, .ref (wA Ω 0)), (1, .int p0), (2, .int p1)] 58 rfl dX10_bestOffset_56 (by decide) rfl ?_
        refine g_iconst (-1) 59 rfl dX10_bestOffset_58 (by decide) ?_
        refine g_istoreA [(5, .int (-1)), (4, .int 0), (3, .int x5), (0, .ref (wA Ω 0)), (1, .int p0), (2, .int p1)] 61 rfl dX10_bestOffset_59 (by decide) rfl ?_
        refine g_iconst 0 62 rfl dX10_bestOffset_61 (by decide) ?_
        refine g_istoreA [(6, .int 0), (5, .int (-1)), (4, .int 0), (3, .int x5), (0, .ref (wA Ω 0)), (1, .int p0), (2, .int p1)] 64 rfl dX10_bestOffset_62 (by decide) rfl ?_
        refine g_join 119 (fun a6 => [(0, .ref (wA Ω 0)), (1, .int p0), (3, .int x5), (4, .int a6.1)]) (fun a6 => []) (fun a6 => a6.2) ?_ ?_
        · intro a6
          refine g_aload_n 0 rfl rfl 120 rfl dX10_bestOffset_119 ?_
          refine w_getR (lm_0 hX) rfl in_X10 1 (by decide) wf_X10_9 1 rfl 123 rfl dX10_bestOffset_120 ?_
          refine g_iload_n 1 rfl rfl 124 rfl dX10_bestOffset_123 ?_
          refine p_cSI [.int p0] [.ref (wA Ω 1)] (c_X10_at l hO a6.2 p0) dX10_bestOffset_124 us_X10_63 rfl yk_X10_at ⟨by decide, by decide⟩ (Nat.le_of_ble_eq_true rfl) rfl 127 rfl ?_
          intro x8
          refine g_iconst 1 128 rfl dX10_bestOffset_127 (by decide) ?_
          refine g_iadd 129 rfl dX10_bestOffset_128 ?_
          refine g_iload_n 2 rfl rfl 130 rfl dX10_bestOffset_129 ?_
          refine w_iast (lm_1 hX) 131 rfl dX10_bestOffset_130 ?_
          intro M9
          refine g_iload 3 rfl 133 rfl dX10_bestOffset_131 ?_
          exact g_iret rfl dX10_bestOffset_133
        · intro k7 hk7
          refine g_sub [(0, .ref (wA Ω 0)), (1, .int p0), (2, .int p1), (3, .int x5), (4, .int 0), (5, .int (-1)), (6, .int 0)] [4, 5, 6, 3, 2, 1, 0] rfl ?_
          refine g_loop 64 (fun a10 => [(0, .ref (wA Ω 0)), (1, .int p0), (2, .int p1), (3, .int x5), (4, .int a10.1), (5, .int a10.2.1), (6, .int a10.2.2.1)]) (fun _ => []) (fun a10 => a10.2.2.2) ?_ FU (0, (-1), 0, M1)
          intro k11 hk11 a10
          unfold fX10_bestOffset_L1
          refine g_iload 6 rfl 66 rfl dX10_bestOffset_64 ?_
          refine g_aload_n 0 rfl rfl 67 rfl dX10_bestOffset_66 ?_
          refine w_getR (lm_0 hX) rfl in_X10 1 (by decide) wf_X10_9 1 rfl 70 rfl dX10_bestOffset_67 ?_
          refine g_iconst 0 71 rfl dX10_bestOffset_70 (by decide) ?_
          refine w_iald (lm_1 hX) 72 rfl dX10_bestOffset_71 ?_
          refine g_icmp_ge 119 (by decide) 75 rfl dX10_bestOffset_72 ?_ ?_
          · refine g_sub [(0, .ref (wA Ω 0)), (1, .int p0), (3, .int x5), (4, .int a10.1)] [0, 1, 3, 4] rfl ?_
            exact hk7 (a10.1, a10.2.2.2)
          · refine g_aload_n 0 rfl rfl 76 rfl dX10_bestOffset_75 ?_
            refine w_getR (lm_0 hX) rfl in_X10 1 (by decide) wf_X10_9 1 rfl 79 rfl dX10_bestOffset_76 ?_
            refine g_iload_n 1 rfl rfl 80 rfl dX10_bestOffset_79 ?_
            refine p_cSI [.int p0] [.ref (wA Ω 1)] (c_X10_at l hO a10.2.2.2 p0) dX10_bestOffset_80 us_X10_63 rfl yk_X10_at ⟨by decide, by decide⟩ (Nat.le_of_ble_eq_true rfl) rfl 83 rfl ?_
            intro x12
            refine g_iconst 1 84 rfl dX10_bestOffset_83 (by decide) ?_
            refine g_iadd 85 rfl dX10_bestOffset_84 ?_
            refine g_iload 6 rfl 87 rfl dX10_bestOffset_85 ?_
            refine w_iast (lm_1 hX) 88 rfl dX10_bestOffset_87 ?_
            intro M13
            refine g_aload_n 0 rfl rfl 89 rfl dX10_bestOffset_88 ?_
            refine g_iload_n 2 rfl rfl 90 rfl dX10_bestOffset_89 ?_
            refine g_cVI 0 [.int p1] [] (c_X10_bands l hO hX M13 p1) dX10_bestOffset_90 uv_X10_207 rfl yk_X10_bands ⟨by decide, by decide⟩ (lm_0 hX).1 (lm_0 hX).2 rfl (Nat.le_of_ble_eq_true rfl) rfl 93 rfl ?_
            intro x14 M15
            refine g_istoreA [(7, .int x14), (0, .ref (wA Ω 0)), (1, .int p0), (2, .int p1), (3, .int x5), (4, .int a10.1), (5, .int a10.2.1), (6, .int a10.2.2.1)] 95 rfl dX10_bestOffset_93 (by decide) rfl ?_
            refine g_iload 0 rfl 97 rfl dX10_bestOffset_95 ?_
            refine g_iload 6 rfl 99 rfl dX10_bestOffset_97 ?_
            refine g_join 113 (fun a16 => [(0, .ref (wA Ω 0)), (1, .int p0), (2, .int p1), (3, .int x5), (4, .int a16.1), (5, .int a16.2), (6, .int a10.2.2.1)]) (fun a16 => []) (fun a16 => M15) ?_ ?_
            · intro a16
              refine g_iinc 6 rfl 1 (by decide) (fun x18 => [(6, .int x18), (0, .ref (wA Ω 0)), (1, .int p0), (2, .int p1), (3, .int x5), (4, .int a16.1), (5, .int a16.2)]) 116 rfl dX10_bestOffset_113 (by decide) (fun _ => rfl) ?_
              intro x18
              refine g_goto 64 (by decide) dX10_bestOffset_116 ?_
              refine g_sub [(0, .ref (wA Ω 0)), (1, .int p0), (2, .int p1), (3, .int x5), (4, .int a16.1), (5, .int a16.2), (6, .int x18)] [1, 2, 3, 4, 5, 6, 0] rfl ?_
              exact hk11 (a16.1, a16.2, x18, M15)
            · intro k17 hk17
              refine g_icmp_gt 105 (by decide) 102 rfl dX10_bestOffset_99 ?_ ?_
              · refine g_iload 0 rfl 107 rfl dX10_bestOffset_105 ?_
                refine g_istoreA [(5, .int x14), (7, .int x14), (0, .ref (wA Ω 0)), (1, .int p0), (2, .int p1), (3, .int x5), (4, .int a10.1), (6, .int a10.2.2.1)] 109 rfl dX10_bestOffset_107 (by decide) rfl ?_
                refine g_iload 7 rfl 111 rfl dX10_bestOffset_109 ?_
                refine g_istoreA [(4, .int a10.2.2.1), (5, .int x14), (7, .int x14), (0, .ref (wA Ω 0)), (1, .int p0), (2, .int p1), (3, .int x5), (6, .int a10.2.2.1)] 113 rfl dX10_bestOffset_111 (by decide) rfl ?_
                refine g_sub [(0, .ref (wA Ω 0)), (1, .int p0), (2, .int p1), (3, .int x5), (4, .int a10.2.2.1), (5, .int x14), (6, .int a10.2.2.1)] [3, 4, 5, 6, 0, 1, 7] rfl ?_
                exact hk17 (a10.2.2.1, x14)
              · refine g_goto 113 (by decide) dX10_bestOffset_102 ?_
                refine g_sub [(0, .ref (wA Ω 0)), (1, .int p0), (2, .int p1), (3, .int x5), (4, .int a10.1), (5, .int a10.2.1), (6, .int a10.2.2.1)] [1, 2, 3, 4, 5, 6, 7] rfl ?_
                exact hk17 (a10.1, a10.2.1)
def fX10_share (M : Mem) (p0 : Int32) : Option (UInt32 × Mem) := bnd (mset M 0 0 0) (fun M1 => clp (fX10_in M1 p0 0 1) (fun x2 => if x2 = 0 then (cl (fX10_raises M1 1) (fun x10 M11 => some (FP.i2f x10, M11))) else (clp (fX10_isPossible M1 p0) (fun x3 => jn (fun (a4 : UInt32 × Mem) => some (a4.1, a4.2)) (fun k5 => if x3 = 0 then (cl (fX10_raises M1 2) (fun x6 M7 => k5 (FP.i2f x6, M7))) else (cl (fX10_bands M1 p0) (fun x8 M9 => grd (inb 0 490) (grd (nn32 (FP.fdiv (FP.i2f x8) (FP.i2f (M9 1 (0 : Int32).toNatClampNeg)))) (k5 (FP.fdiv (FP.i2f x8) (FP.i2f (M9 1 (0 : Int32).toNatClampNeg)), M9))))))))))
set_option maxRecDepth 100000 in
set_option maxHeartbeats 4000000 in
theorem c_X10_share {Ω : Wd} (l : Launch) (hO : OkW Ω) (hX : LM Ω)  (M : Mem) (p0 : Int32) : ∀ r, fX10_share M p0 = some r → Ct l yX10_share (.code yX10_share cX10_share 2 (some .float)) 5 120 Ω [.ref (wA Ω 0), .int p0] M (cvF r) := by
  refine ofG [(0, .ref (wA Ω 0)), (1, .int p0)] hO (by decide) rfl (Nat.le_of_ble_eq_true rfl) rfl ?_
  intro p e s m args below meth c
  unfold fX10_share
  refine g_aload_n 0 rfl rfl 1 rfl dX10_share_0 ?_
  refine g_iconst 0 2 rfl dX10_share_1 (by decide) ?_
  refine w_put (lm_0 hX) rfl in_X10 0 (by decide) wf_X10_47 tyX10 tyX10_ok nmX10 rfl rfl rfl rfl 5 rfl dX10_share_2 ?_
  intro M1
  refine g_iload_n 1 rfl rfl 6 rfl dX10_share_5 ?_
  refine g_iconst 0 7 rfl dX10_share_6 (by decide) ?_
  refine g_iconst 1 8 rfl dX10_share_7 (by decide) ?_
  refine p_cSI [.int p0, .int 0, .int 1] [] (c_X10_in l hO M1 p0 0 1) dX10_share_8 us_X10_70 rfl yk_X10_in ⟨by decide, by decide⟩ (Nat.le_of_ble_eq_true rfl) rfl 11 rfl ?_
  intro x2
  refine g_if_ne 21 (by decide) 14 rfl dX10_share_11 ?_ ?_
  · refine g_aload_n 0 rfl rfl 15 rfl dX10_share_14 ?_
    refine g_iconst 1 16 rfl dX10_share_15 (by decide) ?_
    refine g_cVI 0 [.int 1] [] (c_X10_raises l hO hX M1 1) dX10_share_16 uv_X10_53 rfl yk_X10_raises ⟨by decide, by decide⟩ (lm_0 hX).1 (lm_0 hX).2 rfl (Nat.le_of_ble_eq_true rfl) rfl 19 rfl ?_
    intro x10 M11
    refine f_i2f 20 rfl dX10_share_19 ?_
    exact g_fret rfl dX10_share_20
  · refine g_aload_n 0 rfl rfl 22 rfl dX10_share_21 ?_
    refine g_iload_n 1 rfl rfl 23 rfl dX10_share_22 ?_
    refine p_cVI 0 [.int p0] [] (c_X10_isPossible l hO hX M1 p0) dX10_share_23 uv_X10_201 rfl yk_X10_isPossible ⟨by decide, by decide⟩ (lm_0 hX).1 (lm_0 hX).2 rfl (Nat.le_of_ble_eq_true rfl) rfl 26 rfl ?_
    intro x3
    refine g_join 52 (fun a4 => []) (fun a4 => [.float a4.1]) (fun a4 => a4.2) ?_ ?_
    · intro a4
      exact g_fret rfl dX10_share_52
    · intro k5 hk5
      refine g_if_eq 46 (by decide) 29 rfl dX10_share_26 ?_ ?_
      · refine g_aload_n 0 rfl rfl 47 rfl dX10_share_46 ?_
        refine g_iconst 2 48 rfl dX10_share_47 (by decide) ?_
        refine g_cVI 0 [.int 2] [] (c_X10_raises l hO hX M1 2) dX10_share_48 uv_X10_53 rfl yk_X10_raises ⟨by decide, by decide⟩ (lm_0 hX).1 (lm_0 hX).2 rfl (Nat.le_of_ble_eq_true rfl) rfl 51 rfl ?_
        intro x6 M7
        refine f_i2f 52 rfl dX10_share_51 ?_
        refine g_sub [] [] rfl ?_
        exact hk5 (FP.i2f x6, M7)
      · refine g_aload_n 0 rfl rfl 30 rfl dX10_share_29 ?_
        refine g_iload_n 1 rfl rfl 31 rfl dX10_share_30 ?_
        refine g_cVI 0 [.int p0] [] (c_X10_bands l hO hX M1 p0) dX10_share_31 uv_X10_207 rfl yk_X10_bands ⟨by decide, by decide⟩ (lm_0 hX).1 (lm_0 hX).2 rfl (Nat.le_of_ble_eq_true rfl) rfl 34 rfl ?_
        intro x8 M9
        refine f_i2f 35 rfl dX10_share_34 ?_
        refine g_aload_n 0 rfl rfl 36 rfl dX10_share_35 ?_
        refine w_getR (lm_0 hX) rfl in_X10 1 (by decide) wf_X10_9 1 rfl 39 rfl dX10_share_36 ?_
        refine g_iconst 0 40 rfl dX10_share_39 (by decide) ?_
        refine w_iald (lm_1 hX) 41 rfl dX10_share_40 ?_
        refine f_i2f 42 rfl dX10_share_41 ?_
        refine f_fdiv 43 rfl dX10_share_42 ?_
        refine g_goto 52 (by decide) dX10_share_43 ?_
        refine g_sub [] [] rfl ?_
        exact hk5 (FP.fdiv (FP.i2f x8) (FP.i2f (M9 1 (0 : Int32).toNatClampNeg)), M9)
def fX10_passes_L1 (a6 : Int32 × Int32 × Mem) (x8 : Int32) (x9 : Int32) (k11 : (Int32 × Mem) → Option (Int32 × Mem)) (k14 : (Int32 × Int32 × Mem) → Option (Int32 × Mem)) (a13 : Int32 × Int32 × Mem) : Option (Int32 × Mem) := clp (fX10_of a13.2.2 a6.2.1 2) (fun x15 => if x15 ≤ a13.2.1 then (k11 (a13.1, a13.2.2)) else (clp (fX10_isOn a13.2.2 a6.2.1 x8 a13.2.1 x9) (fun x16 => jn (fun (a17 : Int32 × Mem) => bnd (a13.2.1 + 1) (fun x19 => k14 (a17.1, x19, a17.2))) (fun k18 => if x16 = 0 then (k18 (a13.1, a13.2.2)) else (clp (fX10_groupAt a13.2.2 a6.2.1 a13.2.1) (fun x20 => grd (inb (x20 + 2) 490) (if a13.2.2 1 (x20 + 2).toNatClampNeg = 0 then (grd (inb (x20 + 3) 490) (grd (inb (x20 + 3) 490) (bnd (mset a13.2.2 1 (x20 + 3).toNatClampNeg ((a13.2.2 1 (x20 + 3).toNatClampNeg) + 1)) (fun M32 => k18 (a13.1, M32))))) else (clp (fX10_first a13.2.2 a6.2.1 x8 a13.2.1) (fun x21 => jn (fun (a22 : Int32 × Mem) => grd (inb (x20 + 3) 490) (grd (inb (x20 + 5) 490) (grd (inb (x20 + 3) 490) (bnd (mset a22.2 1 (x20 + 3).toNatClampNeg ((a22.2 1 (x20 + 3).toNatClampNeg) + (a22.2 1 (x20 + 5).toNatClampNeg))) (fun M24 => k18 (a22.1, M24)))))) (fun k23 => if x9 = x21 then (grd (inb (x20 + 4) 490) (jn (fun (a25 : Int32) => grd (inb (x20 + 5) 490) (bnd (mset a13.2.2 1 (x20 + 5).toNatClampNeg a25) (fun M27 => grd (inb (x20 + 4) 490) (if M27 1 (x20 + 4).toNatClampNeg < 0 then (k23 (a13.1, M27)) else (bnd (a13.1 + 1) (fun x28 => grd (inb 4 490) (grd (inb 4 490) (bnd (mset M27 1 (4 : Int32).toNatClampNeg ((M27 1 (4 : Int32).toNatClampNeg) + 1)) (fun M29 => grd (inb 5 490) (grd (inb 3 490) (grd (inb (x20 + 4) 490) (grd (inb 5 490) (bnd (mset M29 1 (5 : Int32).toNatClampNeg ((M29 1 (5 : Int32).toNatClampNeg) + ((M29 1 (3 : Int32).toNatClampNeg) - (M29 1 (x20 + 4).toNatClampNeg)))) (fun M30 => grd (inb (x20 + 4) 490) (bnd (mset M30 1 (x20 + 4).toNatClampNeg (-1)) (fun M31 => k23 (x28, M31))))))))))))))))) (fun k26 => if a13.2.2 1 (x20 + 4).toNatClampNeg < 0 then (k26 0) else (k26 1)))) else (k23 (a13.1, a13.2.2))))))))))))
def fX10_passes_L2 (k4 : (Int32 × Mem) → Option (Int32 × Mem)) (k7 : (Int32 × Int32 × Mem) → Option (Int32 × Mem)) (a6 : Int32 × Int32 × Mem) : Option (Int32 × Mem) := grd (inb 2 490) (if a6.2.2 1 (2 : Int32).toNatClampNeg ≤ a6.2.1 then (k4 (a6.1, a6.2.2)) else (clp (fX10_of a6.2.2 a6.2.1 3) (fun x8 => grd (inb 3 490) (clp (fX10_local a6.2.2 a6.2.1 (a6.2.2 1 (3 : Int32).toNatClampNeg)) (fun x9 => jn (fun (a10 : Int32 × Mem) => bnd (a6.2.1 + 1) (fun x12 => k7 (a10.1, x12, a10.2))) (fun k11 => lp (fX10_passes_L1 a6 x8 x9 k11) FU (a6.1, 0, a6.2.2)))))))
def fX10_passes_L3 (a33 : Int32 × Mem) (k37 : Mem → Option (Int32 × Mem)) (k45 : (Int32 × Mem) → Option (Int32 × Mem)) (a44 : Int32 × Mem) : Option (Int32 × Mem) := clp (fX10_of a44.2 a33.1 2) (fun x46 => if x46 ≤ a44.1 then (k37 a44.2) else (clp (fX10_groupAt a44.2 a33.1 a44.1) (fun x47 => grd (inb (x47 + 5) 490) (bnd (mset a44.2 1 (x47 + 5).toNatClampNeg 0) (fun M48 => bnd (a44.1 + 1) (fun x49 => k45 (x49, M48)))))))
def fX10_passes_L4 (k2 : Mem → Option (Int32 × Mem)) (k34 : (Int32 × Mem) → Option (Int32 × Mem)) (a33 : Int32 × Mem) : Option (Int32 × Mem) := grd (inb 2 490) (if a33.2 1 (2 : Int32).toNatClampNeg ≤ a33.1 then (k2 a33.2) else (clp (fX10_of a33.2 a33.1 4) (fun x35 => grd (inb 3 490) (jn (fun (a36 : Mem) => bnd (a33.1 + 1) (fun x38 => k34 (x38, a36))) (fun k37 => if x35 = a33.2 1 (3 : Int32).toNatClampNeg then (clp (fX10_at a33.2 a33.1) (fun x39 => clp (fX10_of a33.2 a33.1 3) (fun x40 => grd (inb (x39 + 3) 490) (bnd (mset a33.2 1 (x39 + 3).toNatClampNeg (1 - x40)) (fun M41 => clp (fX10_at M41 a33.1) (fun x42 => grd (inb (x42 + 4) 490) (bnd (mset M41 1 (x42 + 4).toNatClampNeg (-1)) (fun M43 => lp (fX10_passes_L3 a33 k37) FU (0, M43))))))))) else (k37 a33.2))))))
def fX10_passes (M : Mem)  : Option (Int32 × Mem) := jn (fun (a1 : Mem) => jn (fun (a3 : Int32 × Mem) => grd (inb 3 490) (grd (inb 3 490) (bnd (mset a3.2 1 (3 : Int32).toNatClampNeg ((a3.2 1 (3 : Int32).toNatClampNeg) + 1)) (fun M5 => some (a3.1, M5))))) (fun k4 => lp (fX10_passes_L2 k4) FU (0, 0, a1))) (fun k2 => lp (fX10_passes_L4 k2) FU (0, M))
set_option maxRecDepth 100000 in
set_option maxHeartbeats 4000000 in
theorem c_X10_passes {Ω : Wd} (l : Launch) (hO : OkW Ω) (hX : LM Ω)  (M : Mem)  : ∀ r, fX10_passes M  = some r → Ct l yX10_passes (.code yX10_passes cX10_passes 7 (some .int)) 4 91 Ω [.ref (wA Ω 0)] M (cvI r) := by
  refine ofG [(0, .ref (wA Ω 0))] hO (by decide) rfl (Nat.le_of_ble_eq_true rfl) rfl ?_
  intro p e s m args below meth c
  unfold fX10_passes
  refine g_iconst 0 1 rfl dX10_passes_0 (by decide) ?_
  refine g_istore_nA [(1, .int 0), (0, .ref (wA Ω 0))] rfl 2 rfl dX10_passes_1 (by decide) rfl ?_
  refine g_iconst 0 3 rfl dX10_passes_2 (by decide) ?_
  refine g_istore_nA [(2, .int 0), (1, .int 0), (0, .ref (wA Ω 0))] rfl 4 rfl dX10_passes_3 (by decide) rfl ?_
  refine g_join 97 (fun a1 => [(0, .ref (wA Ω 0)), (1, .int 0)]) (fun a1 => []) (fun a1 => a1) ?_ ?_
  · intro a1
    refine g_iconst 0 98 rfl dX10_passes_97 (by decide) ?_
    refine g_istore_nA [(2, .int 0), (0, .ref (wA Ω 0)), (1, .int 0)] rfl 99 rfl dX10_passes_98 (by decide) rfl ?_
    refine g_join 327 (fun a3 => [(0, .ref (wA Ω 0)), (1, .int a3.1)]) (fun a3 => []) (fun a3 => a3.2) ?_ ?_
    · intro a3
      refine g_aload_n 0 rfl rfl 328 rfl dX10_passes_327 ?_
      refine w_getR (lm_0 hX) rfl in_X10 1 (by decide) wf_X10_9 1 rfl 331 rfl dX10_passes_328 ?_
      refine g_iconst 3 332 rfl dX10_passes_331 (by decide) ?_
      refine g_dup2 333 rfl dX10_passes_332 rfl rfl ?_
      refine w_iald (lm_1 hX) 334 rfl dX10_passes_333 ?_
      refine g_iconst 1 335 rfl dX10_passes_334 (by decide) ?_
      refine g_iadd 336 rfl dX10_passes_335 ?_
      refine w_iast (lm_1 hX) 337 rfl dX10_passes_336 ?_
      intro M5
      refine g_iload_n 1 rfl rfl 338 rfl dX10_passes_337 ?_
      exact g_iret rfl dX10_passes_338
    · intro k4 hk4
      refine g_sub [(0, .ref (wA Ω 0)), (1, .int 0), (2, .int 0)] [1, 2, 0] rfl ?_
      refine g_loop 99 (fun a6 => [(0, .ref (wA Ω 0)), (1, .int a6.1), (2, .int a6.2.1)]) (fun _ => []) (fun a6 => a6.2.2) ?_ FU (0, 0, a1)
      intro k7 hk7 a6
      unfold fX10_passes_L2
      refine g_iload_n 2 rfl rfl 100 rfl dX10_passes_99 ?_
      refine g_aload_n 0 rfl rfl 101 rfl dX10_passes_100 ?_
      refine w_getR (lm_0 hX) rfl in_X10 1 (by decide) wf_X10_9 1 rfl 104 rfl dX10_passes_101 ?_
      refine g_iconst 2 105 rfl dX10_passes_104 (by decide) ?_
      refine w_iald (lm_1 hX) 106 rfl dX10_passes_105 ?_
      refine g_icmp_ge 327 (by decide) 109 rfl dX10_passes_106 ?_ ?_
      · refine g_sub [(0, .ref (wA Ω 0)), (1, .int a6.1)] [0, 1] rfl ?_
        exact hk4 (a6.1, a6.2.2)
      · refine g_aload_n 0 rfl rfl 110 rfl dX10_passes_109 ?_
        refine g_iload_n 2 rfl rfl 111 rfl dX10_passes_110 ?_
        refine g_iconst 3 112 rfl dX10_passes_111 (by decide) ?_
        refine p_cVI 0 [.int a6.2.1, .int 3] [] (c_X10_of l hO hX a6.2.2 a6.2.1 3) dX10_passes_112 uv_X10_78 rfl yk_X10_of ⟨by decide, by decide⟩ (lm_0 hX).1 (lm_0 hX).2 rfl (Nat.le_of_ble_eq_true rfl) rfl 115 rfl ?_
        intro x8
        refine g_istore_nA [(3, .int x8), (0, .ref (wA Ω 0)), (1, .int a6.1), (2, .int a6.2.1)] rfl 116 rfl dX10_passes_115 (by decide) rfl ?_
        refine g_aload_n 1 rfl rfl 117 rfl dX10_passes_116 ?_
        refine g_iload_n 3 rfl rfl 118 rfl dX10_passes_117 ?_
        refine g_aload_n 1 rfl rfl 119 rfl dX10_passes_118 ?_
        refine w_getR (lm_0 hX) rfl in_X10 1 (by decide) wf_X10_9 1 rfl 122 rfl dX10_passes_119 ?_
        refine g_iconst 3 123 rfl dX10_passes_122 (by decide) ?_
        refine w_iald (lm_1 hX) 124 rfl dX10_passes_123 ?_
        refine p_cVI 0 [.int a6.2.1, .int (a6.2.2 1 (3 : Int32).toNatClampNeg)] [] (c_X10_local l hO hX a6.2.2 a6.2.1 (a6.2.2 1 (3 : Int32).toNatClampNeg)) dX10_passes_124 uv_X10_124 rfl yk_X10_local ⟨by decide, by decide⟩ (lm_0 hX).1 (lm_0 hX).2 rfl (Nat.le_of_ble_eq_true rfl) rfl 127 rfl ?_
        intro x9
        refine g_istoreA [(4, .int x9), (3, .int x8), (0, .ref (wA Ω 0)), (1, .int a6.1), (2, .int a6.2.1)] 129 rfl dX10_passes_127 (by decide) rfl ?_
        refine g_iconst 0 130 rfl dX10_passes_129 (by decide) ?_
        refine g_istoreA [(5, .int 0), (4, .int x9), (3, .int x8), (0, .ref (wA Ω 0)), (1, .int a6.1), (2, .int a6.2.1)] 132 rfl dX10_passes_130 (by decide) rfl ?_
        refine g_join 321 (fun a10 => [(0, .ref (wA Ω 0)), (1, .int a10.1), (2, .int a6.2.1)]) (fun a10 => []) (fun a10 => a10.2) ?_ ?_
        · intro a10
          refine g_iinc 2 rfl 1 (by decide) (fun x12 => [(2, .int x12), (0, .ref (wA Ω 0)), (1, .int a10.1)]) 324 rfl dX10_passes_321 (by decide) (fun _ => rfl) ?_
          intro x12
          refine g_goto 99 (by decide) dX10_passes_324 ?_
          refine g_sub [(0, .ref (wA Ω 0)), (1, .int a10.1), (2, .int x12)] [1, 2, 0] rfl ?_
          exact hk7 (a10.1, x12, a10.2)
        · intro k11 hk11
          refine g_sub [(0, .ref (wA Ω 0)), (1, .int a6.1), (2, .int a6.2.1), (3, .int x8), (4, .int x9), (5, .int 0)] [3, 4, 5, 2, 1, 0] rfl ?_
          refine g_loop 132 (fun a13 => [(0, .ref (wA Ω 0)), (1, .int a13.1), (2, .int a6.2.1), (3, .int x8), (4, .int x9), (5, .int a13.2.1)]) (fun _ => []) (fun a13 => a13.2.2) ?_ FU (a6.1, 0, a6.2.2)
          intro k14 hk14 a13
          unfold fX10_passes_L1
          refine g_iload 5 rfl 134 rfl dX10_passes_132 ?_
          refine g_aload_n 0 rfl rfl 135 rfl dX10_passes_134 ?_
          refine g_iload_n 2 rfl rfl 136 rfl dX10_passes_135 ?_
          refine g_iconst 2 137 rfl dX10_passes_136 (by decide) ?_
          refine p_cVI 0 [.int a6.2.1, .int 2] [.int a13.2.1] (c_X10_of l hO hX a13.2.2 a6.2.1 2) dX10_passes_137 uv_X10_78 rfl yk_X10_of ⟨by decide, by decide⟩ (lm_0 hX).1 (lm_0 hX).2 rfl (Nat.le_of_ble_eq_true rfl) rfl 140 rfl ?_
          intro x15
          refine g_icmp_ge 321 (by decide) 143 rfl dX10_passes_140 ?_ ?_
          · refine g_sub [(0, .ref (wA Ω 0)), (1, .int a13.1), (2, .int a6.2.1)] [0, 1, 2] rfl ?_
            exact hk11 (a13.1, a13.2.2)
          · refine g_aload_n 0 rfl rfl 144 rfl dX10_passes_143 ?_
            refine g_iload_n 2 rfl rfl 145 rfl dX10_passes_144 ?_
            refine g_iload_n 3 rfl rfl 146 rfl dX10_passes_145 ?_
            refine g_iload 5 rfl 148 rfl dX10_passes_146 ?_
            refine g_iload 4 rfl 150 rfl dX10_passes_148 ?_
            refine p_cVI 0 [.int a6.2.1, .int x8, .int a13.2.1, .int x9] [] (c_X10_isOn l hO hX a13.2.2 a6.2.1 x8 a13.2.1 x9) dX10_passes_150 uv_X10_133 rfl yk_X10_isOn ⟨by decide, by decide⟩ (lm_0 hX).1 (lm_0 hX).2 rfl (Nat.le_of_ble_eq_true rfl) rfl 153 rfl ?_
            intro x16
            refine g_join 315 (fun a17 => [(0, .ref (wA Ω 0)), (1, .int a17.1), (2, .int a6.2.1), (3, .int x8), (4, .int x9), (5, .int a13.2.1)]) (fun a17 => []) (fun a17 => a17.2) ?_ ?_
            · intro a17
              refine g_iinc 5 rfl 1 (by decide) (fun x19 => [(5, .int x19), (0, .ref (wA Ω 0)), (1, .int a17.1), (2, .int a6.2.1), (3, .int x8), (4, .int x9)]) 318 rfl dX10_passes_315 (by decide) (fun _ => rfl) ?_
              intro x19
              refine g_goto 132 (by decide) dX10_passes_318 ?_
              refine g_sub [(0, .ref (wA Ω 0)), (1, .int a17.1), (2, .int a6.2.1), (3, .int x8), (4, .int x9), (5, .int x19)] [1, 2, 3, 4, 5, 0] rfl ?_
              exact hk14 (a17.1, x19, a17.2)
            · intro k18 hk18
              refine g_if_ne 159 (by decide) 156 rfl dX10_passes_153 ?_ ?_
              · refine g_goto 315 (by decide) dX10_passes_156 ?_
                exact hk18 (a13.1, a13.2.2)
              · refine g_iload_n 2 rfl rfl 160 rfl dX10_passes_159 ?_
                refine g_iload 5 rfl 162 rfl dX10_passes_160 ?_
                refine p_cSI [.int a6.2.1, .int a13.2.1] [] (c_X10_groupAt l hO a13.2.2 a6.2.1 a13.2.1) dX10_passes_162 us_X10_66 rfl yk_X10_groupAt ⟨by decide, by decide⟩ (Nat.le_of_ble_eq_true rfl) rfl 165 rfl ?_
                intro x20
                refine g_istoreA [(6, .int x20), (0, .ref (wA Ω 0)), (1, .int a13.1), (2, .int a6.2.1), (3, .int x8), (4, .int x9), (5, .int a13.2.1)] 167 rfl dX10_passes_165 (by decide) rfl ?_
                refine g_aload_n 1 rfl rfl 168 rfl dX10_passes_167 ?_
                refine w_getR (lm_0 hX) rfl in_X10 1 (by decide) wf_X10_9 1 rfl 171 rfl dX10_passes_168 ?_
                refine g_iload 0 rfl 173 rfl dX10_passes_171 ?_
                refine g_iconst 2 174 rfl dX10_passes_173 (by decide) ?_
                refine g_iadd 175 rfl dX10_passes_174 ?_
                refine w_iald (lm_1 hX) 176 rfl dX10_passes_175 ?_
                refine g_if_ne 195 (by decide) 179 rfl dX10_passes_176 ?_ ?_
                · refine g_aload_n 1 rfl rfl 180 rfl dX10_passes_179 ?_
                  refine w_getR (lm_0 hX) rfl in_X10 1 (by decide) wf_X10_9 1 rfl 183 rfl dX10_passes_180 ?_
                  refine g_iload 0 rfl 185 rfl dX10_passes_183 ?_
                  refine g_iconst 3 186 rfl dX10_passes_185 (by decide) ?_
                  refine g_iadd 187 rfl dX10_passes_186 ?_
                  refine g_dup2 188 rfl dX10_passes_187 rfl rfl ?_
                  refine w_iald (lm_1 hX) 189 rfl dX10_passes_188 ?_
                  refine g_iconst 1 190 rfl dX10_passes_189 (by decide) ?_
                  refine g_iadd 191 rfl dX10_passes_190 ?_
                  refine w_iast (lm_1 hX) 192 rfl dX10_passes_191 ?_
                  intro M32
                  refine g_goto 315 (by decide) dX10_passes_192 ?_
                  refine g_sub [(0, .ref (wA Ω 0)), (1, .int a13.1), (2, .int a6.2.1), (3, .int x8), (4, .int x9), (5, .int a13.2.1)] [1, 2, 3, 4, 5, 6] rfl ?_
                  exact hk18 (a13.1, M32)
                · refine g_iload 5 rfl 197 rfl dX10_passes_195 ?_
                  refine g_aload_n 1 rfl rfl 198 rfl dX10_passes_197 ?_
                  refine g_iload_n 3 rfl rfl 199 rfl dX10_passes_198 ?_
                  refine g_iload_n 4 rfl rfl 200 rfl dX10_passes_199 ?_
                  refine g_iload 6 rfl 202 rfl dX10_passes_200 ?_
                  refine p_cVI 0 [.int a6.2.1, .int x8, .int a13.2.1] [.int x9] (c_X10_first l hO hX a13.2.2 a6.2.1 x8 a13.2.1) dX10_passes_202 uv_X10_93 rfl yk_X10_first ⟨by decide, by decide⟩ (lm_0 hX).1 (lm_0 hX).2 rfl (Nat.le_of_ble_eq_true rfl) rfl 205 rfl ?_
                  intro x21
                  refine g_join 294 (fun a22 => [(0, .ref (wA Ω 0)), (1, .int a22.1), (2, .int a6.2.1), (3, .int x8), (4, .int x9), (5, .int a13.2.1), (6, .int x20)]) (fun a22 => []) (fun a22 => a22.2) ?_ ?_
                  · intro a22
                    refine g_aload_n 0 rfl rfl 295 rfl dX10_passes_294 ?_
                    refine w_getR (lm_0 hX) rfl in_X10 1 (by decide) wf_X10_9 1 rfl 298 rfl dX10_passes_295 ?_
                    refine g_iload 6 rfl 300 rfl dX10_passes_298 ?_
                    refine g_iconst 3 301 rfl dX10_passes_300 (by decide) ?_
                    refine g_iadd 302 rfl dX10_passes_301 ?_
                    refine g_dup2 303 rfl dX10_passes_302 rfl rfl ?_
                    refine w_iald (lm_1 hX) 304 rfl dX10_passes_303 ?_
                    refine g_aload_n 0 rfl rfl 305 rfl dX10_passes_304 ?_
                    refine w_getR (lm_0 hX) rfl in_X10 1 (by decide) wf_X10_9 1 rfl 308 rfl dX10_passes_305 ?_
                    refine g_iload 6 rfl 310 rfl dX10_passes_308 ?_
                    refine g_iconst 5 311 rfl dX10_passes_310 (by decide) ?_
                    refine g_iadd 312 rfl dX10_passes_311 ?_
                    refine w_iald (lm_1 hX) 313 rfl dX10_passes_312 ?_
                    refine g_iadd 314 rfl dX10_passes_313 ?_
                    refine w_iast (lm_1 hX) 315 rfl dX10_passes_314 ?_
                    intro M24
                    refine g_sub [(0, .ref (wA Ω 0)), (1, .int a22.1), (2, .int a6.2.1), (3, .int x8), (4, .int x9), (5, .int a13.2.1)] [0, 1, 2, 3, 4, 5] rfl ?_
                    exact hk18 (a22.1, M24)
                  · intro k23 hk23
                    refine g_icmp_ne 294 (by decide) 208 rfl dX10_passes_205 ?_ ?_
                    · refine g_aload_n 1 rfl rfl 209 rfl dX10_passes_208 ?_
                      refine w_getR (lm_0 hX) rfl in_X10 1 (by decide) wf_X10_9 1 rfl 212 rfl dX10_passes_209 ?_
                      refine g_iload 0 rfl 214 rfl dX10_passes_212 ?_
                      refine g_iconst 5 215 rfl dX10_passes_214 (by decide) ?_
                      refine g_iadd 216 rfl dX10_passes_215 ?_
                      refine g_aload_n 1 rfl rfl 217 rfl dX10_passes_216 ?_
                      refine w_getR (lm_0 hX) rfl in_X10 1 (by decide) wf_X10_9 1 rfl 220 rfl dX10_passes_217 ?_
                      refine g_iload 0 rfl 222 rfl dX10_passes_220 ?_
                      refine g_iconst 4 223 rfl dX10_passes_222 (by decide) ?_
                      refine g_iadd 224 rfl dX10_passes_223 ?_
                      refine w_iald (lm_1 hX) 225 rfl dX10_passes_224 ?_
                      refine g_join 233 (fun a25 => [(0, .ref (wA Ω 0)), (1, .int a13.1), (2, .int a6.2.1), (3, .int x8), (4, .int x9), (5, .int a13.2.1), (6, .int x20)]) (fun a25 => [.int a25, .int (x20 + 5), .ref (wA Ω 1)]) (fun a25 => a13.2.2) ?_ ?_
                      · intro a25
                        refine w_iast (lm_1 hX) 234 rfl dX10_passes_233 ?_
                        intro M27
                        refine g_aload_n 0 rfl rfl 235 rfl dX10_passes_234 ?_
                        refine w_getR (lm_0 hX) rfl in_X10 1 (by decide) wf_X10_9 1 rfl 238 rfl dX10_passes_235 ?_
                        refine g_iload 6 rfl 240 rfl dX10_passes_238 ?_
                        refine g_iconst 4 241 rfl dX10_passes_240 (by decide) ?_
                        refine g_iadd 242 rfl dX10_passes_241 ?_
                        refine w_iald (lm_1 hX) 243 rfl dX10_passes_242 ?_
                        refine g_if_lt 294 (by decide) 246 rfl dX10_passes_243 ?_ ?_
                        · exact hk23 (a13.1, M27)
                        · refine g_iinc 1 rfl 1 (by decide) (fun x28 => [(1, .int x28), (0, .ref (wA Ω 0)), (2, .int a6.2.1), (3, .int x8), (4, .int x9), (5, .int a13.2.1), (6, .int x20)]) 249 rfl dX10_passes_246 (by decide) (fun _ => rfl) ?_
                          intro x28
                          refine g_aload_n 1 rfl rfl 250 rfl dX10_passes_249 ?_
                          refine w_getR (lm_0 hX) rfl in_X10 1 (by decide) wf_X10_9 1 rfl 253 rfl dX10_passes_250 ?_
                          refine g_iconst 4 254 rfl dX10_passes_253 (by decide) ?_
                          refine g_dup2 255 rfl dX10_passes_254 rfl rfl ?_
                          refine w_iald (lm_1 hX) 256 rfl dX10_passes_255 ?_
                          refine g_iconst 1 257 rfl dX10_passes_256 (by decide) ?_
                          refine g_iadd 258 rfl dX10_passes_257 ?_
                          refine w_iast (lm_1 hX) 259 rfl dX10_passes_258 ?_
                          intro M29
                          refine g_aload_n 1 rfl rfl 260 rfl dX10_passes_259 ?_
                          refine w_getR (lm_0 hX) rfl in_X10 1 (by decide) wf_X10_9 1 rfl 263 rfl dX10_passes_260 ?_
                          refine g_iconst 5 264 rfl dX10_passes_263 (by decide) ?_
                          refine g_dup2 265 rfl dX10_passes_264 rfl rfl ?_
                          refine w_iald (lm_1 hX) 266 rfl dX10_passes_265 ?_
                          refine g_aload_n 1 rfl rfl 267 rfl dX10_passes_266 ?_
                          refine w_getR (lm_0 hX) rfl in_X10 1 (by decide) wf_X10_9 1 rfl 270 rfl dX10_passes_267 ?_
                          refine g_iconst 3 271 rfl dX10_passes_270 (by decide) ?_
                          refine w_iald (lm_1 hX) 272 rfl dX10_passes_271 ?_
                          refine g_aload_n 1 rfl rfl 273 rfl dX10_passes_272 ?_
                          refine w_getR (lm_0 hX) rfl in_X10 1 (by decide) wf_X10_9 1 rfl 276 rfl dX10_passes_273 ?_
                          refine g_iload 6 rfl 278 rfl dX10_passes_276 ?_
                          refine g_iconst 4 279 rfl dX10_passes_278 (by decide) ?_
                          refine g_iadd 280 rfl dX10_passes_279 ?_
                          refine w_iald (lm_1 hX) 281 rfl dX10_passes_280 ?_
                          refine g_isub 282 rfl dX10_passes_281 ?_
                          refine g_iadd 283 rfl dX10_passes_282 ?_
                          refine w_iast (lm_1 hX) 284 rfl dX10_passes_283 ?_
                          intro M30
                          refine g_aload_n 1 rfl rfl 285 rfl dX10_passes_284 ?_
                          refine w_getR (lm_0 hX) rfl in_X10 1 (by decide) wf_X10_9 1 rfl 288 rfl dX10_passes_285 ?_
                          refine g_iload 6 rfl 290 rfl dX10_passes_288 ?_
                          refine g_iconst 4 291 rfl dX10_passes_290 (by decide) ?_
                          refine g_iadd 292 rfl dX10_passes_291 ?_
                          refine g_iconst (-1) 293 rfl dX10_passes_292 (by decide) ?_
                          refine w_iast (lm_1 hX) 294 rfl dX10_passes_293 ?_
                          intro M31
                          refine g_sub [(0, .ref (wA Ω 0)), (1, .int x28), (2, .int a6.2.1), (3, .int x8), (4, .int x9), (5, .int a13.2.1), (6, .int x20)] [1, 0, 2, 3, 4, 5, 6] rfl ?_
                          exact hk23 (x28, M31)
                      · intro k26 hk26
                        refine g_if_lt 232 (by decide) 228 rfl dX10_passes_225 ?_ ?_
                        · refine g_iconst 0 233 rfl dX10_passes_232 (by decide) ?_
                          refine g_sub [(0, .ref (wA Ω 0)), (1, .int a13.1), (2, .int a6.2.1), (3, .int x8), (4, .int x9), (5, .int a13.2.1), (6, .int x20)] [1, 2, 3, 4, 5, 6, 0] rfl ?_
                          exact hk26 0
                        · refine g_iconst 1 229 rfl dX10_passes_228 (by decide) ?_
                          refine g_goto 233 (by decide) dX10_passes_229 ?_
                          refine g_sub [(0, .ref (wA Ω 0)), (1, .int a13.1), (2, .int a6.2.1), (3, .int x8), (4, .int x9), (5, .int a13.2.1), (6, .int x20)] [1, 2, 3, 4, 5, 6, 0] rfl ?_
                          exact hk26 1
                    · refine g_sub [(0, .ref (wA Ω 0)), (1, .int a13.1), (2, .int a6.2.1), (3, .int x8), (4, .int x9), (5, .int a13.2.1), (6, .int x20)] [1, 2, 3, 4, 5, 6, 0] rfl ?_
                      exact hk23 (a13.1, a13.2.2)
  · intro k2 hk2
    refine g_sub [(0, .ref (wA Ω 0)), (1, .int 0), (2, .int 0)] [2, 1, 0] rfl ?_
    refine g_loop 4 (fun a33 => [(0, .ref (wA Ω 0)), (1, .int 0), (2, .int a33.1)]) (fun _ => []) (fun a33 => a33.2) ?_ FU (0, M)
    intro k34 hk34 a33
    unfold fX10_passes_L4
    refine g_iload_n 2 rfl rfl 5 rfl dX10_passes_4 ?_
    refine g_aload_n 0 rfl rfl 6 rfl dX10_passes_5 ?_
    refine w_getR (lm_0 hX) rfl in_X10 1 (by decide) wf_X10_9 1 rfl 9 rfl dX10_passes_6 ?_
    refine g_iconst 2 10 rfl dX10_passes_9 (by decide) ?_
    refine w_iald (lm_1 hX) 11 rfl dX10_passes_10 ?_
    refine g_icmp_ge 97 (by decide) 14 rfl dX10_passes_11 ?_ ?_
    · refine g_sub [(0, .ref (wA Ω 0)), (1, .int 0)] [0, 1] rfl ?_
      exact hk2 a33.2
    · refine g_aload_n 0 rfl rfl 15 rfl dX10_passes_14 ?_
      refine g_iload_n 2 rfl rfl 16 rfl dX10_passes_15 ?_
      refine g_iconst 4 17 rfl dX10_passes_16 (by decide) ?_
      refine p_cVI 0 [.int a33.1, .int 4] [] (c_X10_of l hO hX a33.2 a33.1 4) dX10_passes_17 uv_X10_78 rfl yk_X10_of ⟨by decide, by decide⟩ (lm_0 hX).1 (lm_0 hX).2 rfl (Nat.le_of_ble_eq_true rfl) rfl 20 rfl ?_
      intro x35
      refine g_aload_n 0 rfl rfl 21 rfl dX10_passes_20 ?_
      refine w_getR (lm_0 hX) rfl in_X10 1 (by decide) wf_X10_9 1 rfl 24 rfl dX10_passes_21 ?_
      refine g_iconst 3 25 rfl dX10_passes_24 (by decide) ?_
      refine w_iald (lm_1 hX) 26 rfl dX10_passes_25 ?_
      refine g_join 91 (fun a36 => [(0, .ref (wA Ω 0)), (1, .int 0), (2, .int a33.1)]) (fun a36 => []) (fun a36 => a36) ?_ ?_
      · intro a36
        refine g_iinc 2 rfl 1 (by decide) (fun x38 => [(2, .int x38), (0, .ref (wA Ω 0)), (1, .int 0)]) 94 rfl dX10_passes_91 (by decide) (fun _ => rfl) ?_
        intro x38
        refine g_goto 4 (by decide) dX10_passes_94 ?_
        refine g_sub [(0, .ref (wA Ω 0)), (1, .int 0), (2, .int x38)] [1, 2, 0] rfl ?_
        exact hk34 (x38, a36)
      · intro k37 hk37
        refine g_icmp_ne 91 (by decide) 29 rfl dX10_passes_26 ?_ ?_
        · refine g_aload_n 0 rfl rfl 30 rfl dX10_passes_29 ?_
          refine w_getR (lm_0 hX) rfl in_X10 1 (by decide) wf_X10_9 1 rfl 33 rfl dX10_passes_30 ?_
          refine g_iload_n 2 rfl rfl 34 rfl dX10_passes_33 ?_
          refine p_cSI [.int a33.1] [.ref (wA Ω 1)] (c_X10_at l hO a33.2 a33.1) dX10_passes_34 us_X10_63 rfl yk_X10_at ⟨by decide, by decide⟩ (Nat.le_of_ble_eq_true rfl) rfl 37 rfl ?_
          intro x39
          refine g_iconst 3 38 rfl dX10_passes_37 (by decide) ?_
          refine g_iadd 39 rfl dX10_passes_38 ?_
          refine g_iconst 1 40 rfl dX10_passes_39 (by decide) ?_
          refine g_aload_n 0 rfl rfl 41 rfl dX10_passes_40 ?_
          refine g_iload_n 2 rfl rfl 42 rfl dX10_passes_41 ?_
          refine g_iconst 3 43 rfl dX10_passes_42 (by decide) ?_
          refine p_cVI 0 [.int a33.1, .int 3] [.int 1, .int (x39 + 3), .ref (wA Ω 1)] (c_X10_of l hO hX a33.2 a33.1 3) dX10_passes_43 uv_X10_78 rfl yk_X10_of ⟨by decide, by decide⟩ (lm_0 hX).1 (lm_0 hX).2 rfl (Nat.le_of_ble_eq_true rfl) rfl 46 rfl ?_
          intro x40
          refine g_isub 47 rfl dX10_passes_46 ?_
          refine w_iast (lm_1 hX) 48 rfl dX10_passes_47 ?_
          intro M41
          refine g_aload_n 0 rfl rfl 49 rfl dX10_passes_48 ?_
          refine w_getR (lm_0 hX) rfl in_X10 1 (by decide) wf_X10_9 1 rfl 52 rfl dX10_passes_49 ?_
          refine g_iload_n 2 rfl rfl 53 rfl dX10_passes_52 ?_
          refine p_cSI [.int a33.1] [.ref (wA Ω 1)] (c_X10_at l hO M41 a33.1) dX10_passes_53 us_X10_63 rfl yk_X10_at ⟨by decide, by decide⟩ (Nat.le_of_ble_eq_true rfl) rfl 56 rfl ?_
          intro x42
          refine g_iconst 4 57 rfl dX10_passes_56 (by decide) ?_
          refine g_iadd 58 rfl dX10_passes_57 ?_
          refine g_iconst (-1) 59 rfl dX10_passes_58 (by decide) ?_
          refine w_iast (lm_1 hX) 60 rfl dX10_passes_59 ?_
          intro M43
          refine g_iconst 0 61 rfl dX10_passes_60 (by decide) ?_
          refine g_istore_nA [(3, .int 0), (0, .ref (wA Ω 0)), (1, .int 0), (2, .int a33.1)] rfl 62 rfl dX10_passes_61 (by decide) rfl ?_
          refine g_sub [(0, .ref (wA Ω 0)), (1, .int 0), (2, .int a33.1), (3, .int 0)] [1, 2, 3, 0] rfl ?_
          refine g_loop 62 (fun a44 => [(0, .ref (wA Ω 0)), (1, .int 0), (2, .int a33.1), (3, .int a44.1)]) (fun _ => []) (fun a44 => a44.2) ?_ FU (0, M43)
          intro k45 hk45 a44
          unfold fX10_passes_L3
          refine g_iload_n 3 rfl rfl 63 rfl dX10_passes_62 ?_
          refine g_aload_n 0 rfl rfl 64 rfl dX10_passes_63 ?_
          refine g_iload_n 2 rfl rfl 65 rfl dX10_passes_64 ?_
          refine g_iconst 2 66 rfl dX10_passes_65 (by decide) ?_
          refine p_cVI 0 [.int a33.1, .int 2] [.int a44.1] (c_X10_of l hO hX a44.2 a33.1 2) dX10_passes_66 uv_X10_78 rfl yk_X10_of ⟨by decide, by decide⟩ (lm_0 hX).1 (lm_0 hX).2 rfl (Nat.le_of_ble_eq_true rfl) rfl 69 rfl ?_
          intro x46
          refine g_icmp_ge 91 (by decide) 72 rfl dX10_passes_69 ?_ ?_
          · refine g_sub [(0, .ref (wA Ω 0)), (1, .int 0), (2, .int a33.1)] [0, 1, 2] rfl ?_
            exact hk37 a44.2
          · refine g_aload_n 0 rfl rfl 73 rfl dX10_passes_72 ?_
            refine w_getR (lm_0 hX) rfl in_X10 1 (by decide) wf_X10_9 1 rfl 76 rfl dX10_passes_73 ?_
            refine g_iload_n 2 rfl rfl 77 rfl dX10_passes_76 ?_
            refine g_iload_n 3 rfl rfl 78 rfl dX10_passes_77 ?_
            refine p_cSI [.int a33.1, .int a44.1] [.ref (wA Ω 1)] (c_X10_groupAt l hO a44.2 a33.1 a44.1) dX10_passes_78 us_X10_66 rfl yk_X10_groupAt ⟨by decide, by decide⟩ (Nat.le_of_ble_eq_true rfl) rfl 81 rfl ?_
            intro x47
            refine g_iconst 5 82 rfl dX10_passes_81 (by decide) ?_
            refine g_iadd 83 rfl dX10_passes_82 ?_
            refine g_iconst 0 84 rfl dX10_passes_83 (by decide) ?_
            refine w_iast (lm_1 hX) 85 rfl dX10_passes_84 ?_
            intro M48
            refine g_iinc 3 rfl 1 (by decide) (fun x49 => [(3, .int x49), (0, .ref (wA Ω 0)), (1, .int 0), (2, .int a33.1)]) 88 rfl dX10_passes_85 (by decide) (fun _ => rfl) ?_
            intro x49
            refine g_goto 62 (by decide) dX10_passes_88 ?_
            refine g_sub [(0, .ref (wA Ω 0)), (1, .int 0), (2, .int a33.1), (3, .int x49)] [1, 2, 3, 0] rfl ?_
            exact hk45 (x49, M48)
        · exact hk37 a33.2
def fX10_runs_L1 (p0 : Int32) (k4 : (Int32 × Mem) → Option (Int32 × Mem)) (a3 : Int32 × Mem) : Option (Int32 × Mem) := if p0 ≤ a3.1 then (some (0, a3.2)) else (cl (fX10_passes a3.2) (fun x5 M6 => bnd (mset M6 0 21 ((a3.2 0 21) + x5)) (fun M7 => bnd (a3.1 + 1) (fun x8 => k4 (x8, M7)))))
def fX10_runs (M : Mem) (p0 : Int32) : Option (Int32 × Mem) := clp (fX10_in M p0 1 300) (fun x1 => if x1 = 0 then (some (1, M)) else (grd (inb 3 490) (if (M 1 (3 : Int32).toNatClampNeg) + p0 ≤ 99999 then (bnd (mset M 0 21 0) (fun M2 => lp (fX10_runs_L1 p0) FU (0, M2))) else (some (2, M)))))
set_option maxRecDepth 100000 in
set_option maxHeartbeats 4000000 in
theorem c_X10_runs {Ω : Wd} (l : Launch) (hO : OkW Ω) (hX : LM Ω)  (M : Mem) (p0 : Int32) : ∀ r, fX10_runs M p0 = some r → Ct l yX10_runs (.code yX10_runs cX10_runs 3 (some .int)) 5 117 Ω [.ref (wA Ω 0), .int p0] M (cvI r) := by
  refine ofG [(0, .ref (wA Ω 0)), (1, .int p0)] hO (by decide) rfl (Nat.le_of_ble_eq_true rfl) rfl ?_
  intro p e s m args below meth c
  unfold fX10_runs
  refine g_iload_n 1 rfl rfl 1 rfl dX10_runs_0 ?_
  refine g_iconst 1 2 rfl dX10_runs_1 (by decide) ?_
  refine g_sipush 300 5 rfl dX10_runs_2 (by decide) ?_
  refine p_cSI [.int p0, .int 1, .int 300] [] (c_X10_in l hO M p0 1 300) dX10_runs_5 us_X10_70 rfl yk_X10_in ⟨by decide, by decide⟩ (Nat.le_of_ble_eq_true rfl) rfl 8 rfl ?_
  intro x1
  refine g_if_ne 13 (by decide) 11 rfl dX10_runs_8 ?_ ?_
  · refine g_iconst 1 12 rfl dX10_runs_11 (by decide) ?_
    exact g_iret rfl dX10_runs_12
  · refine g_aload_n 0 rfl rfl 14 rfl dX10_runs_13 ?_
    refine w_getR (lm_0 hX) rfl in_X10 1 (by decide) wf_X10_9 1 rfl 17 rfl dX10_runs_14 ?_
    refine g_iconst 3 18 rfl dX10_runs_17 (by decide) ?_
    refine w_iald (lm_1 hX) 19 rfl dX10_runs_18 ?_
    refine g_iload_n 1 rfl rfl 20 rfl dX10_runs_19 ?_
    refine g_iadd 21 rfl dX10_runs_20 ?_
    refine g_ldc 99999 wq_X10_200 23 rfl dX10_runs_21 ?_
    refine g_icmp_le 28 (by decide) 26 rfl dX10_runs_23 ?_ ?_
    · refine g_aload_n 0 rfl rfl 29 rfl dX10_runs_28 ?_
      refine g_iconst 0 30 rfl dX10_runs_29 (by decide) ?_
      refine w_put (lm_0 hX) rfl in_X10 21 (by decide) wf_X10_102 tyX10 tyX10_ok nmX10 rfl rfl rfl rfl 33 rfl dX10_runs_30 ?_
      intro M2
      refine g_iconst 0 34 rfl dX10_runs_33 (by decide) ?_
      refine g_istore_nA [(2, .int 0), (0, .ref (wA Ω 0)), (1, .int p0)] rfl 35 rfl dX10_runs_34 (by decide) rfl ?_
      refine g_sub [(0, .ref (wA Ω 0)), (1, .int p0), (2, .int 0)] [1, 2, 0] rfl ?_
      refine g_loop 35 (fun a3 => [(0, .ref (wA Ω 0)), (1, .int p0), (2, .int a3.1)]) (fun _ => []) (fun a3 => a3.2) ?_ FU (0, M2)
      intro k4 hk4 a3
      unfold fX10_runs_L1
      refine g_iload_n 2 rfl rfl 36 rfl dX10_runs_35 ?_
      refine g_iload_n 1 rfl rfl 37 rfl dX10_runs_36 ?_
      refine g_icmp_ge 59 (by decide) 40 rfl dX10_runs_37 ?_ ?_
      · refine g_iconst 0 60 rfl dX10_runs_59 (by decide) ?_
        exact g_iret rfl dX10_runs_60
      · refine g_aload_n 0 rfl rfl 41 rfl dX10_runs_40 ?_
        refine g_dup 42 rfl dX10_runs_41 rfl ?_
        refine w_get (lm_0 hX) rfl in_X10 21 (by decide) wf_X10_102 rfl 45 rfl dX10_runs_42 ?_
        refine g_aload_n 0 rfl rfl 46 rfl dX10_runs_45 ?_
        refine g_cVI 0 [] [.int (a3.2 0 21), .ref (wA Ω 0)] (c_X10_passes l hO hX a3.2) dX10_runs_46 uv_X10_216 rfl yk_X10_passes ⟨by decide, by decide⟩ (lm_0 hX).1 (lm_0 hX).2 rfl (Nat.le_of_ble_eq_true rfl) rfl 49 rfl ?_
        intro x5 M6
        refine g_iadd 50 rfl dX10_runs_49 ?_
        refine w_put (lm_0 hX) rfl in_X10 21 (by decide) wf_X10_102 tyX10 tyX10_ok nmX10 rfl rfl rfl rfl 53 rfl dX10_runs_50 ?_
        intro M7
        refine g_iinc 2 rfl 1 (by decide) (fun x8 => [(2, .int x8), (0, .ref (wA Ω 0)), (1, .int p0)]) 56 rfl dX10_runs_53 (by decide) (fun _ => rfl) ?_
        intro x8
        refine g_goto 35 (by decide) dX10_runs_56 ?_
        refine g_sub [(0, .ref (wA Ω 0)), (1, .int p0), (2, .int x8)] [1, 2, 0] rfl ?_
        exact hk4 (x8, M7)
    · refine g_iconst 2 27 rfl dX10_runs_26 (by decide) ?_
      exact g_iret rfl dX10_runs_27
def fX10_run (M : Mem) (p0 : Int32) : Option (Int32 × Mem) := cl (fX10_tries M) (fun u1 M2 => cl (fX10_runs M2 p0) (fun x3 M4 => cl (fX10_ends M4 x3) (fun x5 M6 => some (x5, M6))))
set_option maxRecDepth 100000 in
set_option maxHeartbeats 4000000 in
theorem c_X10_run {Ω : Wd} (l : Launch) (hO : OkW Ω) (hX : LM Ω)  (M : Mem) (p0 : Int32) : ∀ r, fX10_run M p0 = some r → Ct l yX10_run (.code yX10_run cX10_run 2 (some .int)) 6 139 Ω [.ref (wA Ω 0), .int p0] M (cvI r) := by
  refine ofG [(0, .ref (wA Ω 0)), (1, .int p0)] hO (by decide) rfl (Nat.le_of_ble_eq_true rfl) rfl ?_
  intro p e s m args below meth c
  unfold fX10_run
  refine g_aload_n 0 rfl rfl 1 rfl dX10_run_0 ?_
  refine g_cVV 0 [] [] (c_X10_tries l hO hX M) dX10_run_1 uv_X10_109 rfl yk_X10_tries ⟨by decide, by decide⟩ (lm_0 hX).1 (lm_0 hX).2 rfl (Nat.le_of_ble_eq_true rfl) rfl 4 rfl ?_
  intro u1 M2
  refine g_aload_n 0 rfl rfl 5 rfl dX10_run_4 ?_
  refine g_aload_n 0 rfl rfl 6 rfl dX10_run_5 ?_
  refine g_iload_n 1 rfl rfl 7 rfl dX10_run_6 ?_
  refine g_cVI 0 [.int p0] [.ref (wA Ω 0)] (c_X10_runs l hO hX M2 p0) dX10_run_7 uv_X10_220 rfl yk_X10_runs ⟨by decide, by decide⟩ (lm_0 hX).1 (lm_0 hX).2 rfl (Nat.le_of_ble_eq_true rfl) rfl 10 rfl ?_
  intro x3 M4
  refine g_cVI 0 [.int x3] [] (c_X10_ends l hO hX M4 x3) dX10_run_10 uv_X10_115 rfl yk_X10_ends ⟨by decide, by decide⟩ (lm_0 hX).1 (lm_0 hX).2 rfl (Nat.le_of_ble_eq_true rfl) rfl 13 rfl ?_
  intro x5 M6
  exact g_iret rfl dX10_run_13
def fX10_mayChange_L1 (p0 : Int32) (M : Mem) (x1 : Int32) (x2 : Int32) (a3 : Int32) (k8 : Unit → Option Int32) (a14 : Int32) (k17 : Int32 → Option Int32) (a16 : Int32) : Option Int32 := clp (fX10_of M p0 2) (fun x18 => if x18 ≤ a16 then (k8 ()) else (clp (fX10_clear M p0 a3 a16) (fun x19 => jn (fun (a20 : Unit) => bnd (a16 + 1) (fun x22 => k17 x22)) (fun k21 => if x19 < 0 then (k21 ()) else (clp (fX10_length M p0 (1 - x2) a16) (fun x23 => if x23 = 0 then (k21 ()) else (clp (fX10_local M p0 x1) (fun x24 => clp (fX10_first M p0 (1 - x2) a16) (fun x25 => clp (fX10_mod M (x24 - x25)) (fun x26 => clp (fX10_length M p0 (1 - x2) a16) (fun x27 => jn (fun (a28 : Int32) => clp (fX10_clear M p0 a3 a16) (fun x30 => if x30 ≤ a14 + a28 then (k21 ()) else (some 0))) (fun k29 => if x27 ≤ x26 then (grd (inb 0 490) (k29 ((M 1 (0 : Int32).toNatClampNeg) - x26))) else (k29 0)))))))))))))
def fX10_mayChange_L2 (p0 : Int32) (M : Mem) (x1 : Int32) (x2 : Int32) (k4 : Int32 → Option Int32) (a3 : Int32) : Option Int32 := clp (fX10_of M p0 2) (fun x5 => if x5 ≤ a3 then (some 1) else (clp (fX10_length M p0 x2 a3) (fun x6 => jn (fun (a7 : Unit) => bnd (a3 + 1) (fun x9 => k4 x9)) (fun k8 => if x6 = 0 then (k8 ()) else (clp (fX10_local M p0 (x1 - 1)) (fun x10 => clp (fX10_first M p0 x2 a3) (fun x11 => clp (fX10_mod M (x10 - x11)) (fun x12 => clp (fX10_length M p0 x2 a3) (fun x13 => jn (fun (a14 : Int32) => lp (fX10_mayChange_L1 p0 M x1 x2 a3 k8 a14) FU 0) (fun k15 => if x13 ≤ x12 then (clp (fX10_length M p0 x2 a3) (fun x31 => k15 ((x12 - x31) + 1))) else (k15 0)))))))))))
def fX10_mayChange (M : Mem) (p0 : Int32) (p1 : Int32) : Option Int32 := grd (inb 3 490) (bnd ((M 1 (3 : Int32).toNatClampNeg) + p1) (fun x1 => clp (fX10_of M p0 3) (fun x2 => lp (fX10_mayChange_L2 p0 M x1 x2) FU 0)))
set_option maxRecDepth 100000 in
set_option maxHeartbeats 4000000 in
theorem c_X10_mayChange {Ω : Wd} (l : Launch) (hO : OkW Ω) (hX : LM Ω)  (M : Mem) (p0 : Int32) (p1 : Int32) : ∀ r, fX10_mayChange M p0 p1 = some r → Ct l yX10_mayChange (.code yX10_mayChange cX10_mayChange 11 (some .boolean)) 3 67 Ω [.ref (wA Ω 0), .int p0, .int p1] M ((cpI M) r) := by
  refine ofG [(0, .ref (wA Ω 0)), (1, .int p0), (2, .int p1)] hO (by decide) rfl (Nat.le_of_ble_eq_true rfl) rfl ?_
  intro p e s m args below meth c
  unfold fX10_mayChange
  refine g_aload_n 0 rfl rfl 1 rfl dX10_mayChange_0 ?_
  refine w_getR (lm_0 hX) rfl in_X10 1 (by decide) wf_X10_9 1 rfl 4 rfl dX10_mayChange_1 ?_
  refine g_iconst 3 5 rfl dX10_mayChange_4 (by decide) ?_
  refine w_iald (lm_1 hX) 6 rfl dX10_mayChange_5 ?_
  refine g_iload_n 2 rfl rfl 7 rfl dX10_mayChange_6 ?_
  refine g_iadd 8 rfl dX10_mayChange_7 ?_
  refine g_istore_n (fun x1 => [(3, .int x1), (0, .ref (wA Ω 0)), (1, .int p0), (2, .int p1)]) rfl 9 rfl dX10_mayChange_8 (by decide) (fun _ => rfl) ?_
  intro x1
  refine g_aload_n 1 rfl rfl 10 rfl dX10_mayChange_9 ?_
  refine g_iload_n 2 rfl rfl 11 rfl dX10_mayChange_10 ?_
  refine g_iconst 3 12 rfl dX10_mayChange_11 (by decide) ?_
  refine p_cVI 0 [.int p0, .int 3] [] (c_X10_of l hO hX M p0 3) dX10_mayChange_12 uv_X10_78 rfl yk_X10_of ⟨by decide, by decide⟩ (lm_0 hX).1 (lm_0 hX).2 rfl (Nat.le_of_ble_eq_true rfl) rfl 15 rfl ?_
  intro x2
  refine g_istoreA [(4, .int x2), (3, .int x1), (0, .ref (wA Ω 0)), (1, .int p0), (2, .int p1)] 17 rfl dX10_mayChange_15 (by decide) rfl ?_
  refine g_iconst 0 18 rfl dX10_mayChange_17 (by decide) ?_
  refine g_istoreA [(5, .int 0), (4, .int x2), (3, .int x1), (0, .ref (wA Ω 0)), (1, .int p0), (2, .int p1)] 20 rfl dX10_mayChange_18 (by decide) rfl ?_
  refine g_sub [(0, .ref (wA Ω 0)), (1, .int p0), (3, .int x1), (4, .int x2), (5, .int 0)] [3, 4, 2, 1, 0] rfl ?_
  refine g_loop 20 (fun a3 => [(0, .ref (wA Ω 0)), (1, .int p0), (3, .int x1), (4, .int x2), (5, .int a3)]) (fun _ => []) (fun a3 => M) ?_ FU 0
  intro k4 hk4 a3
  unfold fX10_mayChange_L2
  refine g_iload 4 rfl 22 rfl dX10_mayChange_20 ?_
  refine g_aload_n 0 rfl rfl 23 rfl dX10_mayChange_22 ?_
  refine g_iload_n 1 rfl rfl 24 rfl dX10_mayChange_23 ?_
  refine g_iconst 2 25 rfl dX10_mayChange_24 (by decide) ?_
  refine p_cVI 0 [.int p0, .int 2] [.int a3] (c_X10_of l hO hX M p0 2) dX10_mayChange_25 uv_X10_78 rfl yk_X10_of ⟨by decide, by decide⟩ (lm_0 hX).1 (lm_0 hX).2 rfl (Nat.le_of_ble_eq_true rfl) rfl 28 rfl ?_
  intro x5
  refine g_icmp_ge 233 (by decide) 31 rfl dX10_mayChange_28 ?_ ?_
  · refine g_iconst 1 234 rfl dX10_mayChange_233 (by decide) ?_
    exact p_zret rfl rfl dX10_mayChange_234
  · refine g_aload_n 0 rfl rfl 32 rfl dX10_mayChange_31 ?_
    refine g_iload_n 1 rfl rfl 33 rfl dX10_mayChange_32 ?_
    refine g_iload 3 rfl 35 rfl dX10_mayChange_33 ?_
    refine g_iload 4 rfl 37 rfl dX10_mayChange_35 ?_
    refine p_cVI 0 [.int p0, .int x2, .int a3] [] (c_X10_length l hO hX M p0 x2 a3) dX10_mayChange_37 uv_X10_96 rfl yk_X10_length ⟨by decide, by decide⟩ (lm_0 hX).1 (lm_0 hX).2 rfl (Nat.le_of_ble_eq_true rfl) rfl 40 rfl ?_
    intro x6
    refine g_join 227 (fun a7 => [(0, .ref (wA Ω 0)), (1, .int p0), (3, .int x1), (4, .int x2), (5, .int a3)]) (fun a7 => []) (fun a7 => M) ?_ ?_
    · intro a7
      refine g_iinc 4 rfl 1 (by decide) (fun x9 => [(5, .int x9), (0, .ref (wA Ω 0)), (1, .int p0), (3, .int x1), (4, .int x2)]) 230 rfl dX10_mayChange_227 (by decide) (fun _ => rfl) ?_
      intro x9
      refine g_goto 20 (by decide) dX10_mayChange_230 ?_
      refine g_sub [(0, .ref (wA Ω 0)), (1, .int p0), (3, .int x1), (4, .int x2), (5, .int x9)] [1, 2, 3, 4, 0] rfl ?_
      exact hk4 x9
    · intro k8 hk8
      refine g_if_ne 46 (by decide) 43 rfl dX10_mayChange_40 ?_ ?_
      · refine g_goto 227 (by decide) dX10_mayChange_43 ?_
        exact hk8 ()
      · refine g_aload_n 0 rfl rfl 47 rfl dX10_mayChange_46 ?_
        refine g_aload_n 0 rfl rfl 48 rfl dX10_mayChange_47 ?_
        refine g_iload_n 1 rfl rfl 49 rfl dX10_mayChange_48 ?_
        refine g_iload_n 2 rfl rfl 50 rfl dX10_mayChange_49 ?_
        refine g_iconst 1 51 rfl dX10_mayChange_50 (by decide) ?_
        refine g_isub 52 rfl dX10_mayChange_51 ?_
        refine p_cVI 0 [.int p0, .int (x1 - 1)] [.ref (wA Ω 0)] (c_X10_local l hO hX M p0 (x1 - 1)) dX10_mayChange_52 uv_X10_124 rfl yk_X10_local ⟨by decide, by decide⟩ (lm_0 hX).1 (lm_0 hX).2 rfl (Nat.le_of_ble_eq_true rfl) rfl 55 rfl ?_
        intro x10
        refine g_aload_n 0 rfl rfl 56 rfl dX10_mayChange_55 ?_
        refine g_iload_n 1 rfl rfl 57 rfl dX10_mayChange_56 ?_
        refine g_iload 3 rfl 59 rfl dX10_mayChange_57 ?_
        refine g_iload 4 rfl 61 rfl dX10_mayChange_59 ?_
        refine p_cVI 0 [.int p0, .int x2, .int a3] [.int x10, .ref (wA Ω 0)] (c_X10_first l hO hX M p0 x2 a3) dX10_mayChange_61 uv_X10_93 rfl yk_X10_first ⟨by decide, by decide⟩ (lm_0 hX).1 (lm_0 hX).2 rfl (Nat.le_of_ble_eq_true rfl) rfl 64 rfl ?_
        intro x11
        refine g_isub 65 rfl dX10_mayChange_64 ?_
        refine p_cVI 0 [.int (x10 - x11)] [] (c_X10_mod l hO hX M (x10 - x11)) dX10_mayChange_65 uv_X10_86 rfl yk_X10_mod ⟨by decide, by decide⟩ (lm_0 hX).1 (lm_0 hX).2 rfl (Nat.le_of_ble_eq_true rfl) rfl 68 rfl ?_
        intro x12
        refine g_istoreA [(6, .int x12), (0, .ref (wA Ω 0)), (1, .int p0), (3, .int x1), (4, .int x2), (5, .int a3)] 70 rfl dX10_mayChange_68 (by decide) rfl ?_
        refine g_iload 0 rfl 72 rfl dX10_mayChange_70 ?_
        refine g_aload_n 1 rfl rfl 73 rfl dX10_mayChange_72 ?_
        refine g_iload_n 2 rfl rfl 74 rfl dX10_mayChange_73 ?_
        refine g_iload 4 rfl 76 rfl dX10_mayChange_74 ?_
        refine g_iload 5 rfl 78 rfl dX10_mayChange_76 ?_
        refine p_cVI 0 [.int p0, .int x2, .int a3] [.int x12] (c_X10_length l hO hX M p0 x2 a3) dX10_mayChange_78 uv_X10_96 rfl yk_X10_length ⟨by decide, by decide⟩ (lm_0 hX).1 (lm_0 hX).2 rfl (Nat.le_of_ble_eq_true rfl) rfl 81 rfl ?_
        intro x13
        refine g_join 102 (fun a14 => [(0, .ref (wA Ω 0)), (1, .int p0), (3, .int x1), (4, .int x2), (5, .int a3)]) (fun a14 => [.int a14]) (fun a14 => M) ?_ ?_
        · intro a14
          refine g_istoreA [(7, .int a14), (0, .ref (wA Ω 0)), (1, .int p0), (3, .int x1), (4, .int x2), (5, .int a3)] 104 rfl dX10_mayChange_102 (by decide) rfl ?_
          refine g_iconst 0 105 rfl dX10_mayChange_104 (by decide) ?_
          refine g_istoreA [(8, .int 0), (7, .int a14), (0, .ref (wA Ω 0)), (1, .int p0), (3, .int x1), (4, .int x2), (5, .int a3)] 107 rfl dX10_mayChange_105 (by decide) rfl ?_
          refine g_sub [(0, .ref (wA Ω 0)), (1, .int p0), (3, .int x1), (4, .int x2), (5, .int a3), (7, .int a14), (8, .int 0)] [2, 3, 4, 5, 6, 1, 0] rfl ?_
          refine g_loop 107 (fun a16 => [(0, .ref (wA Ω 0)), (1, .int p0), (3, .int x1), (4, .int x2), (5, .int a3), (7, .int a14), (8, .int a16)]) (fun _ => []) (fun a16 => M) ?_ FU 0
          intro k17 hk17 a16
          unfold fX10_mayChange_L1
          refine g_iload 6 rfl 109 rfl dX10_mayChange_107 ?_
          refine g_aload_n 0 rfl rfl 110 rfl dX10_mayChange_109 ?_
          refine g_iload_n 1 rfl rfl 111 rfl dX10_mayChange_110 ?_
          refine g_iconst 2 112 rfl dX10_mayChange_111 (by decide) ?_
          refine p_cVI 0 [.int p0, .int 2] [.int a16] (c_X10_of l hO hX M p0 2) dX10_mayChange_112 uv_X10_78 rfl yk_X10_of ⟨by decide, by decide⟩ (lm_0 hX).1 (lm_0 hX).2 rfl (Nat.le_of_ble_eq_true rfl) rfl 115 rfl ?_
          intro x18
          refine g_icmp_ge 227 (by decide) 118 rfl dX10_mayChange_115 ?_ ?_
          · refine g_sub [(0, .ref (wA Ω 0)), (1, .int p0), (3, .int x1), (4, .int x2), (5, .int a3)] [0, 1, 2, 3, 4] rfl ?_
            exact hk8 ()
          · refine g_aload_n 0 rfl rfl 119 rfl dX10_mayChange_118 ?_
            refine g_iload_n 1 rfl rfl 120 rfl dX10_mayChange_119 ?_
            refine g_iload 4 rfl 122 rfl dX10_mayChange_120 ?_
            refine g_iload 6 rfl 124 rfl dX10_mayChange_122 ?_
            refine p_cVI 0 [.int p0, .int a3, .int a16] [] (c_X10_clear l hO hX M p0 a3 a16) dX10_mayChange_124 uv_X10_121 rfl yk_X10_clear ⟨by decide, by decide⟩ (lm_0 hX).1 (lm_0 hX).2 rfl (Nat.le_of_ble_eq_true rfl) rfl 127 rfl ?_
            intro x19
            refine g_join 221 (fun a20 => [(0, .ref (wA Ω 0)), (1, .int p0), (3, .int x1), (4, .int x2), (5, .int a3), (7, .int a14), (8, .int a16)]) (fun a20 => []) (fun a20 => M) ?_ ?_
            · intro a20
              refine g_iinc 6 rfl 1 (by decide) (fun x22 => [(8, .int x22), (0, .ref (wA Ω 0)), (1, .int p0), (3, .int x1), (4, .int x2), (5, .int a3), (7, .int a14)]) 224 rfl dX10_mayChange_221 (by decide) (fun _ => rfl) ?_
              intro x22
              refine g_goto 107 (by decide) dX10_mayChange_224 ?_
              refine g_sub [(0, .ref (wA Ω 0)), (1, .int p0), (3, .int x1), (4, .int x2), (5, .int a3), (7, .int a14), (8, .int x22)] [1, 2, 3, 4, 5, 6, 0] rfl ?_
              exact hk17 x22
            · intro k21 hk21
              refine g_if_lt 221 (by decide) 130 rfl dX10_mayChange_127 ?_ ?_
              · exact hk21 ()
              · refine g_aload_n 0 rfl rfl 131 rfl dX10_mayChange_130 ?_
                refine g_iload_n 1 rfl rfl 132 rfl dX10_mayChange_131 ?_
                refine g_iconst 1 133 rfl dX10_mayChange_132 (by decide) ?_
                refine g_iload 3 rfl 135 rfl dX10_mayChange_133 ?_
                refine g_isub 136 rfl dX10_mayChange_135 ?_
                refine g_iload 6 rfl 138 rfl dX10_mayChange_136 ?_
                refine p_cVI 0 [.int p0, .int (1 - x2), .int a16] [] (c_X10_length l hO hX M p0 (1 - x2) a16) dX10_mayChange_138 uv_X10_96 rfl yk_X10_length ⟨by decide, by decide⟩ (lm_0 hX).1 (lm_0 hX).2 rfl (Nat.le_of_ble_eq_true rfl) rfl 141 rfl ?_
                intro x23
                refine g_if_ne 147 (by decide) 144 rfl dX10_mayChange_141 ?_ ?_
                · refine g_goto 221 (by decide) dX10_mayChange_144 ?_
                  exact hk21 ()
                · refine g_aload_n 0 rfl rfl 148 rfl dX10_mayChange_147 ?_
                  refine g_aload_n 0 rfl rfl 149 rfl dX10_mayChange_148 ?_
                  refine g_iload_n 1 rfl rfl 150 rfl dX10_mayChange_149 ?_
                  refine g_iload_n 2 rfl rfl 151 rfl dX10_mayChange_150 ?_
                  refine p_cVI 0 [.int p0, .int x1] [.ref (wA Ω 0)] (c_X10_local l hO hX M p0 x1) dX10_mayChange_151 uv_X10_124 rfl yk_X10_local ⟨by decide, by decide⟩ (lm_0 hX).1 (lm_0 hX).2 rfl (Nat.le_of_ble_eq_true rfl) rfl 154 rfl ?_
                  intro x24
                  refine g_aload_n 0 rfl rfl 155 rfl dX10_mayChange_154 ?_
                  refine g_iload_n 1 rfl rfl 156 rfl dX10_mayChange_155 ?_
                  refine g_iconst 1 157 rfl dX10_mayChange_156 (by decide) ?_
                  refine g_iload 3 rfl 159 rfl dX10_mayChange_157 ?_
                  refine g_isub 160 rfl dX10_mayChange_159 ?_
                  refine g_iload 6 rfl 162 rfl dX10_mayChange_160 ?_
                  refine p_cVI 0 [.int p0, .int (1 - x2), .int a16] [.int x24, .ref (wA Ω 0)] (c_X10_first l hO hX M p0 (1 - x2) a16) dX10_mayChange_162 uv_X10_93 rfl yk_X10_first ⟨by decide, by decide⟩ (lm_0 hX).1 (lm_0 hX).2 rfl (Nat.le_of_ble_eq_true rfl) rfl 165 rfl ?_
                  intro x25
                  refine g_isub 166 rfl dX10_mayChange_165 ?_
                  refine p_cVI 0 [.int (x24 - x25)] [] (c_X10_mod l hO hX M (x24 - x25)) dX10_mayChange_166 uv_X10_86 rfl yk_X10_mod ⟨by decide, by decide⟩ (lm_0 hX).1 (lm_0 hX).2 rfl (Nat.le_of_ble_eq_true rfl) rfl 169 rfl ?_
                  intro x26
                  refine g_istoreA [(9, .int x26), (0, .ref (wA Ω 0)), (1, .int p0), (3, .int x1), (4, .int x2), (5, .int a3), (7, .int a14), (8, .int a16)] 171 rfl dX10_mayChange_169 (by decide) rfl ?_
                  refine g_iload 0 rfl 173 rfl dX10_mayChange_171 ?_
                  refine g_aload_n 1 rfl rfl 174 rfl dX10_mayChange_173 ?_
                  refine g_iload_n 2 rfl rfl 175 rfl dX10_mayChange_174 ?_
                  refine g_iconst 1 176 rfl dX10_mayChange_175 (by decide) ?_
                  refine g_iload 4 rfl 178 rfl dX10_mayChange_176 ?_
                  refine g_isub 179 rfl dX10_mayChange_178 ?_
                  refine g_iload 7 rfl 181 rfl dX10_mayChange_179 ?_
                  refine p_cVI 0 [.int p0, .int (1 - x2), .int a16] [.int x26] (c_X10_length l hO hX M p0 (1 - x2) a16) dX10_mayChange_181 uv_X10_96 rfl yk_X10_length ⟨by decide, by decide⟩ (lm_0 hX).1 (lm_0 hX).2 rfl (Nat.le_of_ble_eq_true rfl) rfl 184 rfl ?_
                  intro x27
                  refine g_join 200 (fun a28 => [(0, .ref (wA Ω 0)), (1, .int p0), (3, .int x1), (4, .int x2), (5, .int a3), (7, .int a14), (8, .int a16)]) (fun a28 => [.int a28]) (fun a28 => M) ?_ ?_
                  · intro a28
                    refine g_istoreA [(10, .int a28), (0, .ref (wA Ω 0)), (1, .int p0), (3, .int x1), (4, .int x2), (5, .int a3), (7, .int a14), (8, .int a16)] 202 rfl dX10_mayChange_200 (by decide) rfl ?_
                    refine g_iload 6 rfl 204 rfl dX10_mayChange_202 ?_
                    refine g_iload 0 rfl 206 rfl dX10_mayChange_204 ?_
                    refine g_iadd 207 rfl dX10_mayChange_206 ?_
                    refine g_aload_n 1 rfl rfl 208 rfl dX10_mayChange_207 ?_
                    refine g_iload_n 2 rfl rfl 209 rfl dX10_mayChange_208 ?_
                    refine g_iload 5 rfl 211 rfl dX10_mayChange_209 ?_
                    refine g_iload 7 rfl 213 rfl dX10_mayChange_211 ?_
                    refine p_cVI 0 [.int p0, .int a3, .int a16] [.int (a14 + a28)] (c_X10_clear l hO hX M p0 a3 a16) dX10_mayChange_213 uv_X10_121 rfl yk_X10_clear ⟨by decide, by decide⟩ (lm_0 hX).1 (lm_0 hX).2 rfl (Nat.le_of_ble_eq_true rfl) rfl 216 rfl ?_
                    intro x30
                    refine g_icmp_ge 221 (by decide) 219 rfl dX10_mayChange_216 ?_ ?_
                    · refine g_sub [(0, .ref (wA Ω 0)), (1, .int p0), (3, .int x1), (4, .int x2), (5, .int a3), (7, .int a14), (8, .int a16)] [1, 2, 3, 4, 5, 6, 7] rfl ?_
                      exact hk21 ()
                    · refine g_iconst 0 220 rfl dX10_mayChange_219 (by decide) ?_
                      exact p_zret rfl rfl dX10_mayChange_220
                  · intro k29 hk29
                    refine g_icmp_ge 191 (by decide) 187 rfl dX10_mayChange_184 ?_ ?_
                    · refine g_aload_n 1 rfl rfl 192 rfl dX10_mayChange_191 ?_
                      refine w_getR (lm_0 hX) rfl in_X10 1 (by decide) wf_X10_9 1 rfl 195 rfl dX10_mayChange_192 ?_
                      refine g_iconst 0 196 rfl dX10_mayChange_195 (by decide) ?_
                      refine w_iald (lm_1 hX) 197 rfl dX10_mayChange_196 ?_
                      refine g_iload 0 rfl 199 rfl dX10_mayChange_197 ?_
                      refine g_isub 200 rfl dX10_mayChange_199 ?_
                      refine g_sub [(0, .ref (wA Ω 0)), (1, .int p0), (3, .int x1), (4, .int x2), (5, .int a3), (7, .int a14), (8, .int a16)] [1, 2, 3, 4, 5, 6, 7] rfl ?_
                      exact hk29 ((M 1 (0 : Int32).toNatClampNeg) - x26)
                    · refine g_iconst 0 188 rfl dX10_mayChange_187 (by decide) ?_
                      refine g_goto 200 (by decide) dX10_mayChange_188 ?_
                      refine g_sub [(0, .ref (wA Ω 0)), (1, .int p0), (3, .int x1), (4, .int x2), (5, .int a3), (7, .int a14), (8, .int a16)] [1, 2, 3, 4, 5, 6, 7] rfl ?_
                      exact hk29 0
        · intro k15 hk15
          refine g_icmp_ge 88 (by decide) 84 rfl dX10_mayChange_81 ?_ ?_
          · refine g_iload 0 rfl 90 rfl dX10_mayChange_88 ?_
            refine g_aload_n 1 rfl rfl 91 rfl dX10_mayChange_90 ?_
            refine g_iload_n 2 rfl rfl 92 rfl dX10_mayChange_91 ?_
            refine g_iload 4 rfl 94 rfl dX10_mayChange_92 ?_
            refine g_iload 5 rfl 96 rfl dX10_mayChange_94 ?_
            refine p_cVI 0 [.int p0, .int x2, .int a3] [.int x12] (c_X10_length l hO hX M p0 x2 a3) dX10_mayChange_96 uv_X10_96 rfl yk_X10_length ⟨by decide, by decide⟩ (lm_0 hX).1 (lm_0 hX).2 rfl (Nat.le_of_ble_eq_true rfl) rfl 99 rfl ?_
            intro x31
            refine g_isub 100 rfl dX10_mayChange_99 ?_
            refine g_iconst 1 101 rfl dX10_mayChange_100 (by decide) ?_
            refine g_iadd 102 rfl dX10_mayChange_101 ?_
            refine g_sub [(0, .ref (wA Ω 0)), (1, .int p0), (3, .int x1), (4, .int x2), (5, .int a3)] [1, 2, 3, 4, 5] rfl ?_
            exact hk15 ((x12 - x31) + 1)
          · refine g_iconst 0 85 rfl dX10_mayChange_84 (by decide) ?_
            refine g_goto 102 (by decide) dX10_mayChange_85 ?_
            refine g_sub [(0, .ref (wA Ω 0)), (1, .int p0), (3, .int x1), (4, .int x2), (5, .int a3)] [1, 2, 3, 4, 5] rfl ?_
            exact hk15 0
def fX10_soon_L1 (p0 : Int32) (M : Mem) (k2 : Int32 → Option Int32) (a1 : Int32) : Option Int32 := grd (inb 0 490) (if M 1 (0 : Int32).toNatClampNeg ≤ a1 then (some (-1)) else (clp (fX10_mayChange M p0 a1) (fun x3 => if x3 = 0 then (bnd (a1 + 1) (fun x4 => k2 x4)) else (some a1))))
def fX10_soon (M : Mem) (p0 : Int32) : Option Int32 := lp (fX10_soon_L1 p0 M) FU 0
set_option maxRecDepth 100000 in
set_option maxHeartbeats 4000000 in
theorem c_X10_soon {Ω : Wd} (l : Launch) (hO : OkW Ω) (hX : LM Ω)  (M : Mem) (p0 : Int32) : ∀ r, fX10_soon M p0 = some r → Ct l yX10_soon (.code yX10_soon cX10_soon 3 (some .int)) 4 97 Ω [.ref (wA Ω 0), .int p0] M ((cpI M) r) := by
  refine ofG [(0, .ref (wA Ω 0)), (1, .int p0)] hO (by decide) rfl (Nat.le_of_ble_eq_true rfl) rfl ?_
  intro p e s m args below meth c
  unfold fX10_soon
  refine g_iconst 0 1 rfl dX10_soon_0 (by decide) ?_
  refine g_istore_nA [(2, .int 0), (0, .ref (wA Ω 0)), (1, .int p0)] rfl 2 rfl dX10_soon_1 (by decide) rfl ?_
  refine g_sub [(0, .ref (wA Ω 0)), (1, .int p0), (2, .int 0)] [1, 2, 0] rfl ?_
  refine g_loop 2 (fun a1 => [(0, .ref (wA Ω 0)), (1, .int p0), (2, .int a1)]) (fun _ => []) (fun a1 => M) ?_ FU 0
  intro k2 hk2 a1
  unfold fX10_soon_L1
  refine g_iload_n 2 rfl rfl 3 rfl dX10_soon_2 ?_
  refine g_aload_n 0 rfl rfl 4 rfl dX10_soon_3 ?_
  refine w_getR (lm_0 hX) rfl in_X10 1 (by decide) wf_X10_9 1 rfl 7 rfl dX10_soon_4 ?_
  refine g_iconst 0 8 rfl dX10_soon_7 (by decide) ?_
  refine w_iald (lm_1 hX) 9 rfl dX10_soon_8 ?_
  refine g_icmp_ge 29 (by decide) 12 rfl dX10_soon_9 ?_ ?_
  · refine g_iconst (-1) 30 rfl dX10_soon_29 (by decide) ?_
    exact p_iret rfl dX10_soon_30
  · refine g_aload_n 0 rfl rfl 13 rfl dX10_soon_12 ?_
    refine g_iload_n 1 rfl rfl 14 rfl dX10_soon_13 ?_
    refine g_iload_n 2 rfl rfl 15 rfl dX10_soon_14 ?_
    refine p_cVI 0 [.int p0, .int a1] [] (c_X10_mayChange l hO hX M p0 a1) dX10_soon_15 uv_X10_223 rfl yk_X10_mayChange ⟨by decide, by decide⟩ (lm_0 hX).1 (lm_0 hX).2 rfl (Nat.le_of_ble_eq_true rfl) rfl 18 rfl ?_
    intro x3
    refine g_if_eq 23 (by decide) 21 rfl dX10_soon_18 ?_ ?_
    · refine g_iinc 2 rfl 1 (by decide) (fun x4 => [(2, .int x4), (0, .ref (wA Ω 0)), (1, .int p0)]) 26 rfl dX10_soon_23 (by decide) (fun _ => rfl) ?_
      intro x4
      refine g_goto 2 (by decide) dX10_soon_26 ?_
      refine g_sub [(0, .ref (wA Ω 0)), (1, .int p0), (2, .int x4)] [1, 2, 0] rfl ?_
      exact hk2 x4
    · refine g_iload_n 2 rfl rfl 22 rfl dX10_soon_21 ?_
      exact p_iret rfl dX10_soon_22
def fX10_soonest (M : Mem) (p0 : Int32) : Option (Int32 × Mem) := bnd (mset M 0 0 0) (fun M1 => clp (fX10_isJunction M1 p0) (fun x2 => if x2 = 0 then (cl (fX10_raises M1 1) (fun x8 M9 => some (x8, M9))) else (clp (fX10_soon M1 p0) (fun x3 => jn (fun (a4 : Int32 × Mem) => some (a4.1, a4.2)) (fun k5 => if 0 ≤ x3 then (k5 (x3, M1)) else (cl (fX10_raises M1 2) (fun x6 M7 => k5 (x6, M7))))))))
set_option maxRecDepth 100000 in
set_option maxHeartbeats 4000000 in
theorem c_X10_soonest {Ω : Wd} (l : Launch) (hO : OkW Ω) (hX : LM Ω)  (M : Mem) (p0 : Int32) : ∀ r, fX10_soonest M p0 = some r → Ct l yX10_soonest (.code yX10_soonest cX10_soonest 3 (some .int)) 5 119 Ω [.ref (wA Ω 0), .int p0] M (cvI r) := by
  refine ofG [(0, .ref (wA Ω 0)), (1, .int p0)] hO (by decide) rfl (Nat.le_of_ble_eq_true rfl) rfl ?_
  intro p e s m args below meth c
  unfold fX10_soonest
  refine g_aload_n 0 rfl rfl 1 rfl dX10_soonest_0 ?_
  refine g_iconst 0 2 rfl dX10_soonest_1 (by decide) ?_
  refine w_put (lm_0 hX) rfl in_X10 0 (by decide) wf_X10_47 tyX10 tyX10_ok nmX10 rfl rfl rfl rfl 5 rfl dX10_soonest_2 ?_
  intro M1
  refine g_aload_n 0 rfl rfl 6 rfl dX10_soonest_5 ?_
  refine g_iload_n 1 rfl rfl 7 rfl dX10_soonest_6 ?_
  refine p_cVI 0 [.int p0] [] (c_X10_isJunction l hO hX M1 p0) dX10_soonest_7 uv_X10_74 rfl yk_X10_isJunction ⟨by decide, by decide⟩ (lm_0 hX).1 (lm_0 hX).2 rfl (Nat.le_of_ble_eq_true rfl) rfl 10 rfl ?_
  intro x2
  refine g_if_ne 19 (by decide) 13 rfl dX10_soonest_10 ?_ ?_
  · refine g_aload_n 0 rfl rfl 14 rfl dX10_soonest_13 ?_
    refine g_iconst 1 15 rfl dX10_soonest_14 (by decide) ?_
    refine g_cVI 0 [.int 1] [] (c_X10_raises l hO hX M1 1) dX10_soonest_15 uv_X10_53 rfl yk_X10_raises ⟨by decide, by decide⟩ (lm_0 hX).1 (lm_0 hX).2 rfl (Nat.le_of_ble_eq_true rfl) rfl 18 rfl ?_
    intro x8 M9
    exact g_iret rfl dX10_soonest_18
  · refine g_aload_n 0 rfl rfl 20 rfl dX10_soonest_19 ?_
    refine g_iload_n 1 rfl rfl 21 rfl dX10_soonest_20 ?_
    refine p_cVI 0 [.int p0] [] (c_X10_soon l hO hX M1 p0) dX10_soonest_21 uv_X10_226 rfl yk_X10_soon ⟨by decide, by decide⟩ (lm_0 hX).1 (lm_0 hX).2 rfl (Nat.le_of_ble_eq_true rfl) rfl 24 rfl ?_
    intro x3
    refine g_istore_nA [(2, .int x3), (0, .ref (wA Ω 0)), (1, .int p0)] rfl 25 rfl dX10_soonest_24 (by decide) rfl ?_
    refine g_iload_n 0 rfl rfl 26 rfl dX10_soonest_25 ?_
    refine g_join 38 (fun a4 => []) (fun a4 => [.int a4.1]) (fun a4 => a4.2) ?_ ?_
    · intro a4
      exact g_iret rfl dX10_soonest_38
    · intro k5 hk5
      refine g_if_ge 37 (by decide) 29 rfl dX10_soonest_26 ?_ ?_
      · refine g_iload_n 0 rfl rfl 38 rfl dX10_soonest_37 ?_
        refine g_sub [] [] rfl ?_
        exact hk5 (x3, M1)
      · refine g_aload_n 1 rfl rfl 30 rfl dX10_soonest_29 ?_
        refine g_iconst 2 31 rfl dX10_soonest_30 (by decide) ?_
        refine g_cVI 0 [.int 2] [] (c_X10_raises l hO hX M1 2) dX10_soonest_31 uv_X10_53 rfl yk_X10_raises ⟨by decide, by decide⟩ (lm_0 hX).1 (lm_0 hX).2 rfl (Nat.le_of_ble_eq_true rfl) rfl 34 rfl ?_
        intro x6 M7
        refine g_goto 38 (by decide) dX10_soonest_34 ?_
        refine g_sub [] [] rfl ?_
        exact hk5 (x6, M7)
def fX10_plans (M : Mem) (p0 : Int32) : Option (Int32 × Mem) := clp (fX10_isJunction M p0) (fun x1 => if x1 = 0 then (some (1, M)) else (clp (fX10_of M p0 4) (fun x2 => if x2 < 0 then (clp (fX10_soon M p0) (fun x3 => bnd (mset M 0 21 x3) (fun M4 => if 0 ≤ M4 0 21 then (clp (fX10_at M4 p0) (fun x5 => grd (inb 3 490) (grd (inb (x5 + 4) 490) (bnd (mset M4 1 (x5 + 4).toNatClampNeg ((M4 1 (3 : Int32).toNatClampNeg) + (M4 0 21))) (fun M6 => some (0, M6)))))) else (some (3, M4))))) else (some (2, M)))))
set_option maxRecDepth 100000 in
set_option maxHeartbeats 4000000 in
theorem c_X10_plans {Ω : Wd} (l : Launch) (hO : OkW Ω) (hX : LM Ω)  (M : Mem) (p0 : Int32) : ∀ r, fX10_plans M p0 = some r → Ct l yX10_plans (.code yX10_plans cX10_plans 2 (some .int)) 5 119 Ω [.ref (wA Ω 0), .int p0] M (cvI r) := by
  refine ofG [(0, .ref (wA Ω 0)), (1, .int p0)] hO (by decide) rfl (Nat.le_of_ble_eq_true rfl) rfl ?_
  intro p e s m args below meth c
  unfold fX10_plans
  refine g_aload_n 0 rfl rfl 1 rfl dX10_plans_0 ?_
  refine g_iload_n 1 rfl rfl 2 rfl dX10_plans_1 ?_
  refine p_cVI 0 [.int p0] [] (c_X10_isJunction l hO hX M p0) dX10_plans_2 uv_X10_74 rfl yk_X10_isJunction ⟨by decide, by decide⟩ (lm_0 hX).1 (lm_0 hX).2 rfl (Nat.le_of_ble_eq_true rfl) rfl 5 rfl ?_
  intro x1
  refine g_if_ne 10 (by decide) 8 rfl dX10_plans_5 ?_ ?_
  · refine g_iconst 1 9 rfl dX10_plans_8 (by decide) ?_
    exact g_iret rfl dX10_plans_9
  · refine g_aload_n 0 rfl rfl 11 rfl dX10_plans_10 ?_
    refine g_iload_n 1 rfl rfl 12 rfl dX10_plans_11 ?_
    refine g_iconst 4 13 rfl dX10_plans_12 (by decide) ?_
    refine p_cVI 0 [.int p0, .int 4] [] (c_X10_of l hO hX M p0 4) dX10_plans_13 uv_X10_78 rfl yk_X10_of ⟨by decide, by decide⟩ (lm_0 hX).1 (lm_0 hX).2 rfl (Nat.le_of_ble_eq_true rfl) rfl 16 rfl ?_
    intro x2
    refine g_if_lt 21 (by decide) 19 rfl dX10_plans_16 ?_ ?_
    · refine g_aload_n 0 rfl rfl 22 rfl dX10_plans_21 ?_
      refine g_aload_n 0 rfl rfl 23 rfl dX10_plans_22 ?_
      refine g_iload_n 1 rfl rfl 24 rfl dX10_plans_23 ?_
      refine p_cVI 0 [.int p0] [.ref (wA Ω 0)] (c_X10_soon l hO hX M p0) dX10_plans_24 uv_X10_226 rfl yk_X10_soon ⟨by decide, by decide⟩ (lm_0 hX).1 (lm_0 hX).2 rfl (Nat.le_of_ble_eq_true rfl) rfl 27 rfl ?_
      intro x3
      refine w_put (lm_0 hX) rfl in_X10 21 (by decide) wf_X10_102 tyX10 tyX10_ok nmX10 rfl rfl rfl rfl 30 rfl dX10_plans_27 ?_
      intro M4
      refine g_aload_n 0 rfl rfl 31 rfl dX10_plans_30 ?_
      refine w_get (lm_0 hX) rfl in_X10 21 (by decide) wf_X10_102 rfl 34 rfl dX10_plans_31 ?_
      refine g_if_ge 39 (by decide) 37 rfl dX10_plans_34 ?_ ?_
      · refine g_aload_n 0 rfl rfl 40 rfl dX10_plans_39 ?_
        refine w_getR (lm_0 hX) rfl in_X10 1 (by decide) wf_X10_9 1 rfl 43 rfl dX10_plans_40 ?_
        refine g_iload_n 1 rfl rfl 44 rfl dX10_plans_43 ?_
        refine p_cSI [.int p0] [.ref (wA Ω 1)] (c_X10_at l hO M4 p0) dX10_plans_44 us_X10_63 rfl yk_X10_at ⟨by decide, by decide⟩ (Nat.le_of_ble_eq_true rfl) rfl 47 rfl ?_
        intro x5
        refine g_iconst 4 48 rfl dX10_plans_47 (by decide) ?_
        refine g_iadd 49 rfl dX10_plans_48 ?_
        refine g_aload_n 0 rfl rfl 50 rfl dX10_plans_49 ?_
        refine w_getR (lm_0 hX) rfl in_X10 1 (by decide) wf_X10_9 1 rfl 53 rfl dX10_plans_50 ?_
        refine g_iconst 3 54 rfl dX10_plans_53 (by decide) ?_
        refine w_iald (lm_1 hX) 55 rfl dX10_plans_54 ?_
        refine g_aload_n 0 rfl rfl 56 rfl dX10_plans_55 ?_
        refine w_get (lm_0 hX) rfl in_X10 21 (by decide) wf_X10_102 rfl 59 rfl dX10_plans_56 ?_
        refine g_iadd 60 rfl dX10_plans_59 ?_
        refine w_iast (lm_1 hX) 61 rfl dX10_plans_60 ?_
        intro M6
        refine g_iconst 0 62 rfl dX10_plans_61 (by decide) ?_
        exact g_iret rfl dX10_plans_62
      · refine g_iconst 3 38 rfl dX10_plans_37 (by decide) ?_
        exact g_iret rfl dX10_plans_38
    · refine g_iconst 2 20 rfl dX10_plans_19 (by decide) ?_
      exact g_iret rfl dX10_plans_20
def fX10_change (M : Mem) (p0 : Int32) : Option (Int32 × Mem) := cl (fX10_tries M) (fun u1 M2 => cl (fX10_plans M2 p0) (fun x3 M4 => cl (fX10_ends M4 x3) (fun x5 M6 => some (x5, M6))))
set_option maxRecDepth 100000 in
set_option maxHeartbeats 4000000 in
theorem c_X10_change {Ω : Wd} (l : Launch) (hO : OkW Ω) (hX : LM Ω)  (M : Mem) (p0 : Int32) : ∀ r, fX10_change M p0 = some r → Ct l yX10_change (.code yX10_change cX10_change 2 (some .int)) 6 140 Ω [.ref (wA Ω 0), .int p0] M (cvI r) := by
  refine ofG [(0, .ref (wA Ω 0)), (1, .int p0)] hO (by decide) rfl (Nat.le_of_ble_eq_true rfl) rfl ?_
  intro p e s m args below meth c
  unfold fX10_change
  refine g_aload_n 0 rfl rfl 1 rfl dX10_change_0 ?_
  refine g_cVV 0 [] [] (c_X10_tries l hO hX M) dX10_change_1 uv_X10_109 rfl yk_X10_tries ⟨by decide, by decide⟩ (lm_0 hX).1 (lm_0 hX).2 rfl (Nat.le_of_ble_eq_true rfl) rfl 4 rfl ?_
  intro u1 M2
  refine g_aload_n 0 rfl rfl 5 rfl dX10_change_4 ?_
  refine g_aload_n 0 rfl rfl 6 rfl dX10_change_5 ?_
  refine g_iload_n 1 rfl rfl 7 rfl dX10_change_6 ?_
  refine g_cVI 0 [.int p0] [.ref (wA Ω 0)] (c_X10_plans l hO hX M2 p0) dX10_change_7 uv_X10_229 rfl yk_X10_plans ⟨by decide, by decide⟩ (lm_0 hX).1 (lm_0 hX).2 rfl (Nat.le_of_ble_eq_true rfl) rfl 10 rfl ?_
  intro x3 M4
  refine g_cVI 0 [.int x3] [] (c_X10_ends l hO hX M4 x3) dX10_change_10 uv_X10_115 rfl yk_X10_ends ⟨by decide, by decide⟩ (lm_0 hX).1 (lm_0 hX).2 rfl (Nat.le_of_ble_eq_true rfl) rfl 13 rfl ?_
  intro x5 M6
  exact g_iret rfl dX10_change_13
def fX10_litShare (M : Mem) (p0 : Int32) (p1 : Int32) : Option (Int32 × Mem) := bnd (mset M 0 0 0) (fun M1 => clp (fX10_isGroup M1 p0 p1) (fun x2 => if x2 = 0 then (cl (fX10_raises M1 1) (fun x9 M10 => some (x9, M10))) else (grd (inb 3 490) (jn (fun (a3 : Int32 × Mem) => some (a3.1, a3.2)) (fun k4 => if M1 1 (3 : Int32).toNatClampNeg = 0 then (cl (fX10_raises M1 2) (fun x7 M8 => k4 (x7, M8))) else (clp (fX10_groupOf M1 p0 p1 3) (fun x5 => grd (inb 3 490) (grd (nn32 (FP.fdiv (FP.i2f x5) (FP.i2f (M1 1 (3 : Int32).toNatClampNeg)))) (clp (fJxf58ca_floatToIntBits_5c35a M1 (FP.fdiv (FP.i2f x5) (FP.i2f (M1 1 (3 : Int32).toNatClampNeg)))) (fun x6 => k4 (x6, M1)))))))))))
set_option maxRecDepth 100000 in
set_option maxHeartbeats 4000000 in
theorem c_X10_litShare {Ω : Wd} (l : Launch) (hO : OkW Ω) (hX : LM Ω)  (M : Mem) (p0 : Int32) (p1 : Int32) : ∀ r, fX10_litShare M p0 p1 = some r → Ct l yX10_litShare (.code yX10_litShare cX10_litShare 3 (some .int)) 3 65 Ω [.ref (wA Ω 0), .int p0, .int p1] M (cvI r) := by
  refine ofG [(0, .ref (wA Ω 0)), (1, .int p0), (2, .int p1)] hO (by decide) rfl (Nat.le_of_ble_eq_true rfl) rfl ?_
  intro p e s m args below meth c
  unfold fX10_litShare
  refine g_aload_n 0 rfl rfl 1 rfl dX10_litShare_0 ?_
  refine g_iconst 0 2 rfl dX10_litShare_1 (by decide) ?_
  refine w_put (lm_0 hX) rfl in_X10 0 (by decide) wf_X10_47 tyX10 tyX10_ok nmX10 rfl rfl rfl rfl 5 rfl dX10_litShare_2 ?_
  intro M1
  refine g_aload_n 0 rfl rfl 6 rfl dX10_litShare_5 ?_
  refine g_iload_n 1 rfl rfl 7 rfl dX10_litShare_6 ?_
  refine g_iload_n 2 rfl rfl 8 rfl dX10_litShare_7 ?_
  refine p_cVI 0 [.int p0, .int p1] [] (c_X10_isGroup l hO hX M1 p0 p1) dX10_litShare_8 uv_X10_105 rfl yk_X10_isGroup ⟨by decide, by decide⟩ (lm_0 hX).1 (lm_0 hX).2 rfl (Nat.le_of_ble_eq_true rfl) rfl 11 rfl ?_
  intro x2
  refine g_if_ne 20 (by decide) 14 rfl dX10_litShare_11 ?_ ?_
  · refine g_aload_n 0 rfl rfl 15 rfl dX10_litShare_14 ?_
    refine g_iconst 1 16 rfl dX10_litShare_15 (by decide) ?_
    refine g_cVI 0 [.int 1] [] (c_X10_raises l hO hX M1 1) dX10_litShare_16 uv_X10_53 rfl yk_X10_raises ⟨by decide, by decide⟩ (lm_0 hX).1 (lm_0 hX).2 rfl (Nat.le_of_ble_eq_true rfl) rfl 19 rfl ?_
    intro x9 M10
    exact g_iret rfl dX10_litShare_19
  · refine g_aload_n 0 rfl rfl 21 rfl dX10_litShare_20 ?_
    refine w_getR (lm_0 hX) rfl in_X10 1 (by decide) wf_X10_9 1 rfl 24 rfl dX10_litShare_21 ?_
    refine g_iconst 3 25 rfl dX10_litShare_24 (by decide) ?_
    refine w_iald (lm_1 hX) 26 rfl dX10_litShare_25 ?_
    refine g_join 56 (fun a3 => []) (fun a3 => [.int a3.1]) (fun a3 => a3.2) ?_ ?_
    · intro a3
      exact g_iret rfl dX10_litShare_56
    · intro k4 hk4
      refine g_if_ne 37 (by decide) 29 rfl dX10_litShare_26 ?_ ?_
      · refine g_aload_n 0 rfl rfl 30 rfl dX10_litShare_29 ?_
        refine g_iconst 2 31 rfl dX10_litShare_30 (by decide) ?_
        refine g_cVI 0 [.int 2] [] (c_X10_raises l hO hX M1 2) dX10_litShare_31 uv_X10_53 rfl yk_X10_raises ⟨by decide, by decide⟩ (lm_0 hX).1 (lm_0 hX).2 rfl (Nat.le_of_ble_eq_true rfl) rfl 34 rfl ?_
        intro x7 M8
        refine g_goto 56 (by decide) dX10_litShare_34 ?_
        refine g_sub [] [] rfl ?_
        exact hk4 (x7, M8)
      · refine g_aload_n 0 rfl rfl 38 rfl dX10_litShare_37 ?_
        refine g_iload_n 1 rfl rfl 39 rfl dX10_litShare_38 ?_
        refine g_iload_n 2 rfl rfl 40 rfl dX10_litShare_39 ?_
        refine g_iconst 3 41 rfl dX10_litShare_40 (by decide) ?_
        refine p_cVI 0 [.int p0, .int p1, .int 3] [] (c_X10_groupOf l hO hX M1 p0 p1 3) dX10_litShare_41 uv_X10_89 rfl yk_X10_groupOf ⟨by decide, by decide⟩ (lm_0 hX).1 (lm_0 hX).2 rfl (Nat.le_of_ble_eq_true rfl) rfl 44 rfl ?_
        intro x5
        refine f_i2f 45 rfl dX10_litShare_44 ?_
        refine g_aload_n 0 rfl rfl 46 rfl dX10_litShare_45 ?_
        refine w_getR (lm_0 hX) rfl in_X10 1 (by decide) wf_X10_9 1 rfl 49 rfl dX10_litShare_46 ?_
        refine g_iconst 3 50 rfl dX10_litShare_49 (by decide) ?_
        refine w_iald (lm_1 hX) 51 rfl dX10_litShare_50 ?_
        refine f_i2f 52 rfl dX10_litShare_51 ?_
        refine f_fdiv 53 rfl dX10_litShare_52 ?_
        refine p_cTI [.float (FP.fdiv (FP.i2f x5) (FP.i2f (M1 1 (3 : Int32).toNatClampNeg)))] [] (c_Jxf58ca_floatToIntBits_5c35a l hO M1 (FP.fdiv (FP.i2f x5) (FP.i2f (M1 1 (3 : Int32).toNatClampNeg)))) dX10_litShare_53 ut_X10_234 yk_Jxf58ca_floatToIntBits_5c35a ⟨by decide, by decide⟩ (Nat.le_of_ble_eq_true rfl) rfl 56 rfl ?_
        intro x6
        refine g_sub [] [] rfl ?_
        exact hk4 (x6, M1)
def fX10_does (M : Mem) (p0 : Int32) : Option (Int32 × Mem) := if p0 = 0 then (grd (inb 0 5) (grd (inb 1 5) (grd (inb 2 5) (grd (inb 3 5) (grd (inb 4 5) (cl (fX10_greened M (M 7 (0 : Int32).toNatClampNeg) (M 7 (1 : Int32).toNatClampNeg) (M 7 (2 : Int32).toNatClampNeg) (M 7 (3 : Int32).toNatClampNeg) (M 7 (4 : Int32).toNatClampNeg)) (fun x11 M12 => some (x11, M12)))))))) else (if p0 = 1 then (grd (inb 0 5) (grd (inb 1 5) (cl (fX10_offsets M (M 7 (0 : Int32).toNatClampNeg) (M 7 (1 : Int32).toNatClampNeg)) (fun x9 M10 => some (x9, M10))))) else (if p0 = 2 then (grd (inb 0 5) (grd (inb 1 5) (cl (fX10_presses M (M 7 (0 : Int32).toNatClampNeg) (M 7 (1 : Int32).toNatClampNeg)) (fun x7 M8 => some (x7, M8))))) else (if p0 = 3 then (grd (inb 0 5) (cl (fX10_runs M (M 7 (0 : Int32).toNatClampNeg)) (fun x5 M6 => some (x5, M6)))) else (if p0 = 4 then (grd (inb 0 5) (cl (fX10_plans M (M 7 (0 : Int32).toNatClampNeg)) (fun x3 M4 => some (x3, M4)))) else (grd (inb 0 5) (grd (inb 1 5) (grd (inb 2 5) (cl (fX10_roads M (M 7 (0 : Int32).toNatClampNeg) (M 7 (1 : Int32).toNatClampNeg) (M 7 (2 : Int32).toNatClampNeg)) (fun x1 M2 => some (x1, M2))))))))))
set_option maxRecDepth 100000 in
set_option maxHeartbeats 4000000 in
theorem c_X10_does {Ω : Wd} (l : Launch) (hO : OkW Ω) (hX : LM Ω)  (M : Mem) (p0 : Int32) : ∀ r, fX10_does M p0 = some r → Ct l yX10_does (.code yX10_does cX10_does 2 (some .int)) 9 217 Ω [.ref (wA Ω 0), .int p0] M (cvI r) := by
  refine ofG [(0, .ref (wA Ω 0)), (1, .int p0)] hO (by decide) rfl (Nat.le_of_ble_eq_true rfl) rfl ?_
  intro p e s m args below meth c
  unfold fX10_does
  refine g_iload_n 1 rfl rfl 1 rfl dX10_does_0 ?_
  refine g_case ?_ ?_
  · intro h1_0
    refine g_tin (off := 35) 36 (by rw [h1_0]; decide) (by rw [h1_0]; decide) (by rw [h1_0]; rfl) (by decide) dX10_does_1 ?_
    refine g_aload_n 0 rfl rfl 37 rfl dX10_does_36 ?_
    refine g_aload_n 0 rfl rfl 38 rfl dX10_does_37 ?_
    refine w_getR (lm_0 hX) rfl in_X10 14 (by decide) wf_X10_32 7 rfl 41 rfl dX10_does_38 ?_
    refine g_iconst 0 42 rfl dX10_does_41 (by decide) ?_
    refine w_iald (lm_7 hX) 43 rfl dX10_does_42 ?_
    refine g_aload_n 0 rfl rfl 44 rfl dX10_does_43 ?_
    refine w_getR (lm_0 hX) rfl in_X10 14 (by decide) wf_X10_32 7 rfl 47 rfl dX10_does_44 ?_
    refine g_iconst 1 48 rfl dX10_does_47 (by decide) ?_
    refine w_iald (lm_7 hX) 49 rfl dX10_does_48 ?_
    refine g_aload_n 0 rfl rfl 50 rfl dX10_does_49 ?_
    refine w_getR (lm_0 hX) rfl in_X10 14 (by decide) wf_X10_32 7 rfl 53 rfl dX10_does_50 ?_
    refine g_iconst 2 54 rfl dX10_does_53 (by decide) ?_
    refine w_iald (lm_7 hX) 55 rfl dX10_does_54 ?_
    refine g_aload_n 0 rfl rfl 56 rfl dX10_does_55 ?_
    refine w_getR (lm_0 hX) rfl in_X10 14 (by decide) wf_X10_32 7 rfl 59 rfl dX10_does_56 ?_
    refine g_iconst 3 60 rfl dX10_does_59 (by decide) ?_
    refine w_iald (lm_7 hX) 61 rfl dX10_does_60 ?_
    refine g_aload_n 0 rfl rfl 62 rfl dX10_does_61 ?_
    refine w_getR (lm_0 hX) rfl in_X10 14 (by decide) wf_X10_32 7 rfl 65 rfl dX10_does_62 ?_
    refine g_iconst 4 66 rfl dX10_does_65 (by decide) ?_
    refine w_iald (lm_7 hX) 67 rfl dX10_does_66 ?_
    refine g_cVI 0 [.int (M 7 (0 : Int32).toNatClampNeg), .int (M 7 (1 : Int32).toNatClampNeg), .int (M 7 (2 : Int32).toNatClampNeg), .int (M 7 (3 : Int32).toNatClampNeg), .int (M 7 (4 : Int32).toNatClampNeg)] [] (c_X10_greened l hO hX M (M 7 (0 : Int32).toNatClampNeg) (M 7 (1 : Int32).toNatClampNeg) (M 7 (2 : Int32).toNatClampNeg) (M 7 (3 : Int32).toNatClampNeg) (M 7 (4 : Int32).toNatClampNeg)) dX10_does_67 uv_X10_177 rfl yk_X10_greened ⟨by decide, by decide⟩ (lm_0 hX).1 (lm_0 hX).2 rfl (Nat.le_of_ble_eq_true rfl) rfl 70 rfl ?_
    intro x11 M12
    exact g_iret rfl dX10_does_70
  · intro h1_0
    refine g_case ?_ ?_
    · intro h1_1
      refine g_tin (off := 70) 71 (by rw [h1_1]; decide) (by rw [h1_1]; decide) (by rw [h1_1]; rfl) (by decide) dX10_does_1 ?_
      refine g_aload_n 0 rfl rfl 72 rfl dX10_does_71 ?_
      refine g_aload_n 0 rfl rfl 73 rfl dX10_does_72 ?_
      refine w_getR (lm_0 hX) rfl in_X10 14 (by decide) wf_X10_32 7 rfl 76 rfl dX10_does_73 ?_
      refine g_iconst 0 77 rfl dX10_does_76 (by decide) ?_
      refine w_iald (lm_7 hX) 78 rfl dX10_does_77 ?_
      refine g_aload_n 0 rfl rfl 79 rfl dX10_does_78 ?_
      refine w_getR (lm_0 hX) rfl in_X10 14 (by decide) wf_X10_32 7 rfl 82 rfl dX10_does_79 ?_
      refine g_iconst 1 83 rfl dX10_does_82 (by decide) ?_
      refine w_iald (lm_7 hX) 84 rfl dX10_does_83 ?_
      refine g_cVI 0 [.int (M 7 (0 : Int32).toNatClampNeg), .int (M 7 (1 : Int32).toNatClampNeg)] [] (c_X10_offsets l hO hX M (M 7 (0 : Int32).toNatClampNeg) (M 7 (1 : Int32).toNatClampNeg)) dX10_does_84 uv_X10_112 rfl yk_X10_offsets ⟨by decide, by decide⟩ (lm_0 hX).1 (lm_0 hX).2 rfl (Nat.le_of_ble_eq_true rfl) rfl 87 rfl ?_
      intro x9 M10
      exact g_iret rfl dX10_does_87
    · intro h1_1
      refine g_case ?_ ?_
      · intro h1_2
        refine g_tin (off := 87) 88 (by rw [h1_2]; decide) (by rw [h1_2]; decide) (by rw [h1_2]; rfl) (by decide) dX10_does_1 ?_
        refine g_aload_n 0 rfl rfl 89 rfl dX10_does_88 ?_
        refine g_aload_n 0 rfl rfl 90 rfl dX10_does_89 ?_
        refine w_getR (lm_0 hX) rfl in_X10 14 (by decide) wf_X10_32 7 rfl 93 rfl dX10_does_90 ?_
        refine g_iconst 0 94 rfl dX10_does_93 (by decide) ?_
        refine w_iald (lm_7 hX) 95 rfl dX10_does_94 ?_
        refine g_aload_n 0 rfl rfl 96 rfl dX10_does_95 ?_
        refine w_getR (lm_0 hX) rfl in_X10 14 (by decide) wf_X10_32 7 rfl 99 rfl dX10_does_96 ?_
        refine g_iconst 1 100 rfl dX10_does_99 (by decide) ?_
        refine w_iald (lm_7 hX) 101 rfl dX10_does_100 ?_
        refine g_cVI 0 [.int (M 7 (0 : Int32).toNatClampNeg), .int (M 7 (1 : Int32).toNatClampNeg)] [] (c_X10_presses l hO hX M (M 7 (0 : Int32).toNatClampNeg) (M 7 (1 : Int32).toNatClampNeg)) dX10_does_101 uv_X10_213 rfl yk_X10_presses ⟨by decide, by decide⟩ (lm_0 hX).1 (lm_0 hX).2 rfl (Nat.le_of_ble_eq_true rfl) rfl 104 rfl ?_
        intro x7 M8
        exact g_iret rfl dX10_does_104
      · intro h1_2
        refine g_case ?_ ?_
        · intro h1_3
          refine g_tin (off := 104) 105 (by rw [h1_3]; decide) (by rw [h1_3]; decide) (by rw [h1_3]; rfl) (by decide) dX10_does_1 ?_
          refine g_aload_n 0 rfl rfl 106 rfl dX10_does_105 ?_
          refine g_aload_n 0 rfl rfl 107 rfl dX10_does_106 ?_
          refine w_getR (lm_0 hX) rfl in_X10 14 (by decide) wf_X10_32 7 rfl 110 rfl dX10_does_107 ?_
          refine g_iconst 0 111 rfl dX10_does_110 (by decide) ?_
          refine w_iald (lm_7 hX) 112 rfl dX10_does_111 ?_
          refine g_cVI 0 [.int (M 7 (0 : Int32).toNatClampNeg)] [] (c_X10_runs l hO hX M (M 7 (0 : Int32).toNatClampNeg)) dX10_does_112 uv_X10_220 rfl yk_X10_runs ⟨by decide, by decide⟩ (lm_0 hX).1 (lm_0 hX).2 rfl (Nat.le_of_ble_eq_true rfl) rfl 115 rfl ?_
          intro x5 M6
          exact g_iret rfl dX10_does_115
        · intro h1_3
          refine g_case ?_ ?_
          · intro h1_4
            refine g_tin (off := 115) 116 (by rw [h1_4]; decide) (by rw [h1_4]; decide) (by rw [h1_4]; rfl) (by decide) dX10_does_1 ?_
            refine g_aload_n 0 rfl rfl 117 rfl dX10_does_116 ?_
            refine g_aload_n 0 rfl rfl 118 rfl dX10_does_117 ?_
            refine w_getR (lm_0 hX) rfl in_X10 14 (by decide) wf_X10_32 7 rfl 121 rfl dX10_does_118 ?_
            refine g_iconst 0 122 rfl dX10_does_121 (by decide) ?_
            refine w_iald (lm_7 hX) 123 rfl dX10_does_122 ?_
            refine g_cVI 0 [.int (M 7 (0 : Int32).toNatClampNeg)] [] (c_X10_plans l hO hX M (M 7 (0 : Int32).toNatClampNeg)) dX10_does_123 uv_X10_229 rfl yk_X10_plans ⟨by decide, by decide⟩ (lm_0 hX).1 (lm_0 hX).2 rfl (Nat.le_of_ble_eq_true rfl) rfl 126 rfl ?_
            intro x3 M4
            exact g_iret rfl dX10_does_126
          · intro h1_4
            refine g_tout 127 (ts_out (fun z h1 h2 e => by have q0 := ts_ne (z := 0) h1_0 (by decide); have q1 := ts_ne (z := 1) h1_1 (by decide); have q2 := ts_ne (z := 2) h1_2 (by decide); have q3 := ts_ne (z := 3) h1_3 (by decide); have q4 := ts_ne (z := 4) h1_4 (by decide); omega)) (by decide) dX10_does_1 ?_
            refine g_aload_n 0 rfl rfl 128 rfl dX10_does_127 ?_
            refine g_aload_n 0 rfl rfl 129 rfl dX10_does_128 ?_
            refine w_getR (lm_0 hX) rfl in_X10 14 (by decide) wf_X10_32 7 rfl 132 rfl dX10_does_129 ?_
            refine g_iconst 0 133 rfl dX10_does_132 (by decide) ?_
            refine w_iald (lm_7 hX) 134 rfl dX10_does_133 ?_
            refine g_aload_n 0 rfl rfl 135 rfl dX10_does_134 ?_
            refine w_getR (lm_0 hX) rfl in_X10 14 (by decide) wf_X10_32 7 rfl 138 rfl dX10_does_135 ?_
            refine g_iconst 1 139 rfl dX10_does_138 (by decide) ?_
            refine w_iald (lm_7 hX) 140 rfl dX10_does_139 ?_
            refine g_aload_n 0 rfl rfl 141 rfl dX10_does_140 ?_
            refine w_getR (lm_0 hX) rfl in_X10 14 (by decide) wf_X10_32 7 rfl 144 rfl dX10_does_141 ?_
            refine g_iconst 2 145 rfl dX10_does_144 (by decide) ?_
            refine w_iald (lm_7 hX) 146 rfl dX10_does_145 ?_
            refine g_cVI 0 [.int (M 7 (0 : Int32).toNatClampNeg), .int (M 7 (1 : Int32).toNatClampNeg), .int (M 7 (2 : Int32).toNatClampNeg)] [] (c_X10_roads l hO hX M (M 7 (0 : Int32).toNatClampNeg) (M 7 (1 : Int32).toNatClampNeg) (M 7 (2 : Int32).toNatClampNeg)) dX10_does_146 uv_X10_118 rfl yk_X10_roads ⟨by decide, by decide⟩ (lm_0 hX).1 (lm_0 hX).2 rfl (Nat.le_of_ble_eq_true rfl) rfl 149 rfl ?_
            intro x1 M2
            exact g_iret rfl dX10_does_149
def fX10_told (M : Mem) (p0 : Int32) (p1 : Int32) : Option (Int32 × Mem) := bnd (mset M 0 0 0) (fun M1 => clp (fX10_isJunction M1 p0) (fun x2 => if x2 = 0 then (cl (fX10_raises M1 1) (fun x13 M14 => some (x13, M14))) else (if p1 = 0 then (clp (fX10_of M1 p0 p1) (fun x12 => some (x12, M1))) else (if p1 = 1 then (clp (fX10_of M1 p0 p1) (fun x11 => some (x11, M1))) else (if p1 = 2 then (clp (fX10_of M1 p0 p1) (fun x10 => some (x10, M1))) else (if p1 = 3 then (grd (inb 3 490) (clp (fX10_local M1 p0 (M1 1 (3 : Int32).toNatClampNeg)) (fun x9 => some (x9, M1)))) else (if p1 = 4 then (clp (fX10_of M1 p0 3) (fun x8 => some (x8, M1))) else (if p1 = 5 then (clp (fX10_of M1 p0 4) (fun x7 => some (x7, M1))) else (if p1 = 6 then (clp (fX10_conflicts M1 p0) (fun x6 => some (x6, M1))) else (if p1 = 7 then (clp (fX10_lights M1 p0) (fun x5 => some (x5, M1))) else (cl (fX10_raises M1 2) (fun x3 M4 => some (x3, M4)))))))))))))
set_option maxRecDepth 100000 in
set_option maxHeartbeats 4000000 in
theorem c_X10_told {Ω : Wd} (l : Launch) (hO : OkW Ω) (hX : LM Ω)  (M : Mem) (p0 : Int32) (p1 : Int32) : ∀ r, fX10_told M p0 p1 = some r → Ct l yX10_told (.code yX10_told cX10_told 3 (some .int)) 5 118 Ω [.ref (wA Ω 0), .int p0, .int p1] M (cvI r) := by
  refine ofG [(0, .ref (wA Ω 0)), (1, .int p0), (2, .int p1)] hO (by decide) rfl (Nat.le_of_ble_eq_true rfl) rfl ?_
  intro p e s m args below meth c
  unfold fX10_told
  refine g_aload_n 0 rfl rfl 1 rfl dX10_told_0 ?_
  refine g_iconst 0 2 rfl dX10_told_1 (by decide) ?_
  refine w_put (lm_0 hX) rfl in_X10 0 (by decide) wf_X10_47 tyX10 tyX10_ok nmX10 rfl rfl rfl rfl 5 rfl dX10_told_2 ?_
  intro M1
  refine g_aload_n 0 rfl rfl 6 rfl dX10_told_5 ?_
  refine g_iload_n 1 rfl rfl 7 rfl dX10_told_6 ?_
  refine p_cVI 0 [.int p0] [] (c_X10_isJunction l hO hX M1 p0) dX10_told_7 uv_X10_74 rfl yk_X10_isJunction ⟨by decide, by decide⟩ (lm_0 hX).1 (lm_0 hX).2 rfl (Nat.le_of_ble_eq_true rfl) rfl 10 rfl ?_
  intro x2
  refine g_if_ne 19 (by decide) 13 rfl dX10_told_10 ?_ ?_
  · refine g_aload_n 0 rfl rfl 14 rfl dX10_told_13 ?_
    refine g_iconst 1 15 rfl dX10_told_14 (by decide) ?_
    refine g_cVI 0 [.int 1] [] (c_X10_raises l hO hX M1 1) dX10_told_15 uv_X10_53 rfl yk_X10_raises ⟨by decide, by decide⟩ (lm_0 hX).1 (lm_0 hX).2 rfl (Nat.le_of_ble_eq_true rfl) rfl 18 rfl ?_
    intro x13 M14
    exact g_iret rfl dX10_told_18
  · refine g_iload_n 2 rfl rfl 20 rfl dX10_told_19 ?_
    refine g_case ?_ ?_
    · intro h20_0
      refine g_tin (off := 48) 68 (by rw [h20_0]; decide) (by rw [h20_0]; decide) (by rw [h20_0]; rfl) (by decide) dX10_told_20 ?_
      refine g_aload_n 0 rfl rfl 69 rfl dX10_told_68 ?_
      refine g_iload_n 1 rfl rfl 70 rfl dX10_told_69 ?_
      refine g_iload_n 2 rfl rfl 71 rfl dX10_told_70 ?_
      refine p_cVI 0 [.int p0, .int p1] [] (c_X10_of l hO hX M1 p0 p1) dX10_told_71 uv_X10_78 rfl yk_X10_of ⟨by decide, by decide⟩ (lm_0 hX).1 (lm_0 hX).2 rfl (Nat.le_of_ble_eq_true rfl) rfl 74 rfl ?_
      intro x12
      exact g_iret rfl dX10_told_74
    · intro h20_0
      refine g_case ?_ ?_
      · intro h20_1
        refine g_tin (off := 48) 68 (by rw [h20_1]; decide) (by rw [h20_1]; decide) (by rw [h20_1]; rfl) (by decide) dX10_told_20 ?_
        refine g_aload_n 0 rfl rfl 69 rfl dX10_told_68 ?_
        refine g_iload_n 1 rfl rfl 70 rfl dX10_told_69 ?_
        refine g_iload_n 2 rfl rfl 71 rfl dX10_told_70 ?_
        refine p_cVI 0 [.int p0, .int p1] [] (c_X10_of l hO hX M1 p0 p1) dX10_told_71 uv_X10_78 rfl yk_X10_of ⟨by decide, by decide⟩ (lm_0 hX).1 (lm_0 hX).2 rfl (Nat.le_of_ble_eq_true rfl) rfl 74 rfl ?_
        intro x11
        exact g_iret rfl dX10_told_74
      · intro h20_1
        refine g_case ?_ ?_
        · intro h20_2
          refine g_tin (off := 48) 68 (by rw [h20_2]; decide) (by rw [h20_2]; decide) (by rw [h20_2]; rfl) (by decide) dX10_told_20 ?_
          refine g_aload_n 0 rfl rfl 69 rfl dX10_told_68 ?_
          refine g_iload_n 1 rfl rfl 70 rfl dX10_told_69 ?_
          refine g_iload_n 2 rfl rfl 71 rfl dX10_told_70 ?_
          refine p_cVI 0 [.int p0, .int p1] [] (c_X10_of l hO hX M1 p0 p1) dX10_told_71 uv_X10_78 rfl yk_X10_of ⟨by decide, by decide⟩ (lm_0 hX).1 (lm_0 hX).2 rfl (Nat.le_of_ble_eq_true rfl) rfl 74 rfl ?_
          intro x10
          exact g_iret rfl dX10_told_74
        · intro h20_2
          refine g_case ?_ ?_
          · intro h20_3
            refine g_tin (off := 55) 75 (by rw [h20_3]; decide) (by rw [h20_3]; decide) (by rw [h20_3]; rfl) (by decide) dX10_told_20 ?_
            refine g_aload_n 0 rfl rfl 76 rfl dX10_told_75 ?_
            refine g_iload_n 1 rfl rfl 77 rfl dX10_told_76 ?_
            refine g_aload_n 0 rfl rfl 78 rfl dX10_told_77 ?_
            refine w_getR (lm_0 hX) rfl in_X10 1 (by decide) wf_X10_9 1 rfl 81 rfl dX10_told_78 ?_
            refine g_iconst 3 82 rfl dX10_told_81 (by decide) ?_
            refine w_iald (lm_1 hX) 83 rfl dX10_told_82 ?_
            refine p_cVI 0 [.int p0, .int (M1 1 (3 : Int32).toNatClampNeg)] [] (c_X10_local l hO hX M1 p0 (M1 1 (3 : Int32).toNatClampNeg)) dX10_told_83 uv_X10_124 rfl yk_X10_local ⟨by decide, by decide⟩ (lm_0 hX).1 (lm_0 hX).2 rfl (Nat.le_of_ble_eq_true rfl) rfl 86 rfl ?_
            intro x9
            exact g_iret rfl dX10_told_86
          · intro h20_3
            refine g_case ?_ ?_
            · intro h20_4
              refine g_tin (off := 67) 87 (by rw [h20_4]; decide) (by rw [h20_4]; decide) (by rw [h20_4]; rfl) (by decide) dX10_told_20 ?_
              refine g_aload_n 0 rfl rfl 88 rfl dX10_told_87 ?_
              refine g_iload_n 1 rfl rfl 89 rfl dX10_told_88 ?_
              refine g_iconst 3 90 rfl dX10_told_89 (by decide) ?_
              refine p_cVI 0 [.int p0, .int 3] [] (c_X10_of l hO hX M1 p0 3) dX10_told_90 uv_X10_78 rfl yk_X10_of ⟨by decide, by decide⟩ (lm_0 hX).1 (lm_0 hX).2 rfl (Nat.le_of_ble_eq_true rfl) rfl 93 rfl ?_
              intro x8
              exact g_iret rfl dX10_told_93
            · intro h20_4
              refine g_case ?_ ?_
              · intro h20_5
                refine g_tin (off := 74) 94 (by rw [h20_5]; decide) (by rw [h20_5]; decide) (by rw [h20_5]; rfl) (by decide) dX10_told_20 ?_
                refine g_aload_n 0 rfl rfl 95 rfl dX10_told_94 ?_
                refine g_iload_n 1 rfl rfl 96 rfl dX10_told_95 ?_
                refine g_iconst 4 97 rfl dX10_told_96 (by decide) ?_
                refine p_cVI 0 [.int p0, .int 4] [] (c_X10_of l hO hX M1 p0 4) dX10_told_97 uv_X10_78 rfl yk_X10_of ⟨by decide, by decide⟩ (lm_0 hX).1 (lm_0 hX).2 rfl (Nat.le_of_ble_eq_true rfl) rfl 100 rfl ?_
                intro x7
                exact g_iret rfl dX10_told_100
              · intro h20_5
                refine g_case ?_ ?_
                · intro h20_6
                  refine g_tin (off := 81) 101 (by rw [h20_6]; decide) (by rw [h20_6]; decide) (by rw [h20_6]; rfl) (by decide) dX10_told_20 ?_
                  refine g_aload_n 0 rfl rfl 102 rfl dX10_told_101 ?_
                  refine g_iload_n 1 rfl rfl 103 rfl dX10_told_102 ?_
                  refine p_cVI 0 [.int p0] [] (c_X10_conflicts l hO hX M1 p0) dX10_told_103 uv_X10_127 rfl yk_X10_conflicts ⟨by decide, by decide⟩ (lm_0 hX).1 (lm_0 hX).2 rfl (Nat.le_of_ble_eq_true rfl) rfl 106 rfl ?_
                  intro x6
                  exact g_iret rfl dX10_told_106
                · intro h20_6
                  refine g_case ?_ ?_
                  · intro h20_7
                    refine g_tin (off := 87) 107 (by rw [h20_7]; decide) (by rw [h20_7]; decide) (by rw [h20_7]; rfl) (by decide) dX10_told_20 ?_
                    refine g_aload_n 0 rfl rfl 108 rfl dX10_told_107 ?_
                    refine g_iload_n 1 rfl rfl 109 rfl dX10_told_108 ?_
                    refine p_cVI 0 [.int p0] [] (c_X10_lights l hO hX M1 p0) dX10_told_109 uv_X10_130 rfl yk_X10_lights ⟨by decide, by decide⟩ (lm_0 hX).1 (lm_0 hX).2 rfl (Nat.le_of_ble_eq_true rfl) rfl 112 rfl ?_
                    intro x5
                    exact g_iret rfl dX10_told_112
                  · intro h20_7
                    refine g_tout 113 (ts_out (fun z h1 h2 e => by have q0 := ts_ne (z := 0) h20_0 (by decide); have q1 := ts_ne (z := 1) h20_1 (by decide); have q2 := ts_ne (z := 2) h20_2 (by decide); have q3 := ts_ne (z := 3) h20_3 (by decide); have q4 := ts_ne (z := 4) h20_4 (by decide); have q5 := ts_ne (z := 5) h20_5 (by decide); have q6 := ts_ne (z := 6) h20_6 (by decide); have q7 := ts_ne (z := 7) h20_7 (by decide); omega)) (by decide) dX10_told_20 ?_
                    refine g_aload_n 0 rfl rfl 114 rfl dX10_told_113 ?_
                    refine g_iconst 2 115 rfl dX10_told_114 (by decide) ?_
                    refine g_cVI 0 [.int 2] [] (c_X10_raises l hO hX M1 2) dX10_told_115 uv_X10_53 rfl yk_X10_raises ⟨by decide, by decide⟩ (lm_0 hX).1 (lm_0 hX).2 rfl (Nat.le_of_ble_eq_true rfl) rfl 118 rfl ?_
                    intro x3 M4
                    exact g_iret rfl dX10_told_118
def fX10_word_L1 (k21 : Int32 → Option (Int32 × Mem)) (k25 : Int32 → Option (Int32 × Mem)) (a24 : Int32) : Option (Int32 × Mem) := clp (fJ0_charAt 19 a24) (fun x26 => if x26 = 58 then (k21 a24) else (bnd (a24 + 1) (fun x27 => k25 x27)))
def fX10_word_L2 (a2 : Mem) (k16 : (Int32 × Int32) → Option (Int32 × Mem)) (k29 : (Int32 × Int32) → Option (Int32 × Mem)) (a28 : Int32 × Int32) : Option (Int32 × Mem) := clp (fJ0_charAt 19 a28.1) (fun x30 => if x30 = 58 then (k16 (a28.1, a28.2)) else (if a2 0 9 ≤ a28.2 then (k16 (a28.1, a28.2)) else (grd (inb a28.2 60) (clp (fJ0_charAt 19 a28.1) (fun x31 => if a2 5 a28.2.toNatClampNeg = x31 then (bnd (a28.2 + 1) (fun x32 => bnd (a28.1 + 1) (fun x33 => k29 (x33, x32)))) else (k16 (a28.1, a28.2)))))))
def fX10_word_L3 (x1 : Int32) (a2 : Mem) (k5 : Unit → Option (Int32 × Mem)) (k8 : Int32 → Option (Int32 × Mem)) (k14 : (Int32 × Int32) → Option (Int32 × Mem)) (a13 : Int32 × Int32) : Option (Int32 × Mem) := if 6 ≤ a13.2 then (k5 ()) else (jn (fun (a15 : Int32 × Int32) => clp (fJ0_charAt 19 a15.1) (fun x17 => jn (fun (a18 : Unit) => jn (fun (a20 : Int32) => bnd (a20 + 1) (fun x22 => bnd (a13.2 + 1) (fun x23 => k14 (x22, x23)))) (fun k21 => lp (fX10_word_L1 k21) FU a15.1)) (fun k19 => if x17 = 58 then (if a15.2 = a2 0 9 then (if a2 0 9 ≤ x1 then (k19 ()) else (k8 a13.2)) else (k19 ())) else (k19 ())))) (fun k16 => lp (fX10_word_L2 a2 k16) FU (a13.1, x1)))
def fX10_word_L4 (k3 : Mem → Option (Int32 × Mem)) (k35 : Mem → Option (Int32 × Mem)) (a34 : Mem) : Option (Int32 × Mem) := clp (fX10_here a34) (fun x36 => clp (fX10_in a34 x36 97 122) (fun x37 => if x37 = 0 then (k3 a34) else (bnd (mset a34 0 9 ((a34 0 9) + 1)) (fun M38 => k35 M38))))
def fX10_word (M : Mem)  : Option (Int32 × Mem) := bnd (M 0 9) (fun x1 => jn (fun (a2 : Mem) => jn (fun (a4 : Unit) => bnd (mset a2 0 9 x1) (fun M6 => some ((-1), M6))) (fun k5 => jn (fun (a7 : Int32) => cl (fX10_takes a2 58) (fun x9 M10 => jn (fun (a11 : Int32) => some (a11, M10)) (fun k12 => if x9 = 0 then (k12 (-1)) else (k12 a7)))) (fun k8 => lp (fX10_word_L3 x1 a2 k5 k8) FU (0, 0)))) (fun k3 => lp (fX10_word_L4 k3) FU M))
set_option maxRecDepth 100000 in
set_option maxHeartbeats 4000000 in
theorem c_X10_word {Ω : Wd} (l : Launch) (hO : OkW Ω) (hX : LM Ω) {K V : Nat → Nat} (hK : StrOk Ω K V)  (M : Mem)  : ∀ r, fX10_word M  = some r → Ct l yX10_word (.code yX10_word cX10_word 5 (some .int)) 4 85 Ω [.ref (wA Ω 0)] M (cvI r) := by
  refine ofG [(0, .ref (wA Ω 0))] hO (by decide) rfl (Nat.le_of_ble_eq_true rfl) rfl ?_
  intro p e s m args below meth c
  unfold fX10_word
  refine g_aload_n 0 rfl rfl 1 rfl dX10_word_0 ?_
  refine w_get (lm_0 hX) rfl in_X10 9 (by decide) wf_X10_240 rfl 4 rfl dX10_word_1 ?_
  refine g_istore_n (fun x1 => [(1, .int x1), (0, .ref (wA Ω 0))]) rfl 5 rfl dX10_word_4 (by decide) (fun _ => rfl) ?_
  intro x1
  refine g_join 32 (fun a2 => [(0, .ref (wA Ω 0)), (1, .int x1)]) (fun a2 => []) (fun a2 => a2) ?_ ?_
  · intro a2
    refine g_iconst 0 33 rfl dX10_word_32 (by decide) ?_
    refine g_istore_nA [(2, .int 0), (0, .ref (wA Ω 0)), (1, .int x1)] rfl 34 rfl dX10_word_33 (by decide) rfl ?_
    refine g_iconst 0 35 rfl dX10_word_34 (by decide) ?_
    refine g_istore_nA [(3, .int 0), (2, .int 0), (0, .ref (wA Ω 0)), (1, .int x1)] rfl 36 rfl dX10_word_35 (by decide) rfl ?_
    refine g_join 159 (fun a4 => [(0, .ref (wA Ω 0)), (1, .int x1)]) (fun a4 => []) (fun a4 => a2) ?_ ?_
    · intro a4
      refine g_aload_n 0 rfl rfl 160 rfl dX10_word_159 ?_
      refine g_iload_n 1 rfl rfl 161 rfl dX10_word_160 ?_
      refine w_put (lm_0 hX) rfl in_X10 9 (by decide) wf_X10_240 tyX10 tyX10_ok nmX10 rfl rfl rfl rfl 164 rfl dX10_word_161 ?_
      intro M6
      refine g_iconst (-1) 165 rfl dX10_word_164 (by decide) ?_
      exact g_iret rfl dX10_word_165
    · intro k5 hk5
      refine g_join 118 (fun a7 => [(0, .ref (wA Ω 0)), (3, .int a7)]) (fun a7 => []) (fun a7 => a2) ?_ ?_
      · intro a7
        refine g_aload_n 0 rfl rfl 119 rfl dX10_word_118 ?_
        refine g_bipush 58 121 rfl dX10_word_119 (by decide) ?_
        refine g_cVI 0 [.int 58] [] (c_X10_takes l hO hX a2 58) dX10_word_121 uv_X10_253 rfl yk_X10_takes ⟨by decide, by decide⟩ (lm_0 hX).1 (lm_0 hX).2 rfl (Nat.le_of_ble_eq_true rfl) rfl 124 rfl ?_
        intro x9 M10
        refine g_join 132 (fun a11 => []) (fun a11 => [.int a11]) (fun a11 => M10) ?_ ?_
        · intro a11
          exact g_iret rfl dX10_word_132
        · intro k12 hk12
          refine g_if_eq 131 (by decide) 127 rfl dX10_word_124 ?_ ?_
          · refine g_iconst (-1) 132 rfl dX10_word_131 (by decide) ?_
            refine g_sub [] [] rfl ?_
            exact hk12 (-1)
          · refine g_iload_n 1 rfl rfl 128 rfl dX10_word_127 ?_
            refine g_goto 132 (by decide) dX10_word_128 ?_
            refine g_sub [] [] rfl ?_
            exact hk12 a7
      · intro k8 hk8
        refine g_sub [(0, .ref (wA Ω 0)), (1, .int x1), (2, .int 0), (3, .int 0)] [2, 3, 1, 0] rfl ?_
        refine g_loop 36 (fun a13 => [(0, .ref (wA Ω 0)), (1, .int x1), (2, .int a13.1), (3, .int a13.2)]) (fun _ => []) (fun a13 => a2) ?_ FU (0, 0)
        intro k14 hk14 a13
        unfold fX10_word_L3
        refine g_iload_n 3 rfl rfl 37 rfl dX10_word_36 ?_
        refine g_bipush 6 39 rfl dX10_word_37 (by decide) ?_
        refine g_icmp_ge 159 (by decide) 42 rfl dX10_word_39 ?_ ?_
        · refine g_sub [(0, .ref (wA Ω 0)), (1, .int x1)] [0, 1] rfl ?_
          exact hk5 ()
        · refine g_iload_n 1 rfl rfl 43 rfl dX10_word_42 ?_
          refine g_istoreA [(4, .int x1), (0, .ref (wA Ω 0)), (1, .int x1), (2, .int a13.1), (3, .int a13.2)] 45 rfl dX10_word_43 (by decide) rfl ?_
          refine g_join 90 (fun a15 => [(0, .ref (wA Ω 0)), (1, .int x1), (2, .int a15.1), (3, .int a13.2), (4, .int a15.2)]) (fun a15 => []) (fun a15 => a2) ?_ ?_
          · intro a15
            refine s_ldc hK 19 (by decide) rfl 92 rfl dX10_word_90 ?_
            refine g_iload_n 2 rfl rfl 93 rfl dX10_word_92 ?_
            refine p_cK hK 19 (by decide) [.int a15.1] [] (c_J0_charAt l hO hK 19 (by decide) a2 a15.1) dX10_word_93 uv_X10_247 rfl yk_J0_charAt_5068e ⟨by decide, by decide⟩ (Nat.le_of_ble_eq_true rfl) rfl 96 rfl ?_
            intro x17
            refine g_bipush 58 98 rfl dX10_word_96 (by decide) ?_
            refine g_join 133 (fun a18 => [(0, .ref (wA Ω 0)), (1, .int x1), (2, .int a15.1), (3, .int a13.2)]) (fun a18 => []) (fun a18 => a2) ?_ ?_
            · intro a18
              refine g_join 150 (fun a20 => [(0, .ref (wA Ω 0)), (1, .int x1), (2, .int a20), (3, .int a13.2)]) (fun a20 => []) (fun a20 => a2) ?_ ?_
              · intro a20
                refine g_iinc 2 rfl 1 (by decide) (fun x22 => [(2, .int x22), (0, .ref (wA Ω 0)), (1, .int x1), (3, .int a13.2)]) 153 rfl dX10_word_150 (by decide) (fun _ => rfl) ?_
                intro x22
                refine g_iinc 3 rfl 1 (by decide) (fun x23 => [(3, .int x23), (2, .int x22), (0, .ref (wA Ω 0)), (1, .int x1)]) 156 rfl dX10_word_153 (by decide) (fun _ => rfl) ?_
                intro x23
                refine g_goto 36 (by decide) dX10_word_156 ?_
                refine g_sub [(0, .ref (wA Ω 0)), (1, .int x1), (2, .int x22), (3, .int x23)] [2, 3, 1, 0] rfl ?_
                exact hk14 (x22, x23)
              · intro k21 hk21
                refine g_loop 133 (fun a24 => [(0, .ref (wA Ω 0)), (1, .int x1), (2, .int a24), (3, .int a13.2)]) (fun _ => []) (fun a24 => a2) ?_ FU a15.1
                intro k25 hk25 a24
                unfold fX10_word_L1
                refine s_ldc hK 19 (by decide) rfl 135 rfl dX10_word_133 ?_
                refine g_iload_n 2 rfl rfl 136 rfl dX10_word_135 ?_
                refine p_cK hK 19 (by decide) [.int a24] [] (c_J0_charAt l hO hK 19 (by decide) a2 a24) dX10_word_136 uv_X10_247 rfl yk_J0_charAt_5068e ⟨by decide, by decide⟩ (Nat.le_of_ble_eq_true rfl) rfl 139 rfl ?_
                intro x26
                refine g_bipush 58 141 rfl dX10_word_139 (by decide) ?_
                refine g_icmp_eq 150 (by decide) 144 rfl dX10_word_141 ?_ ?_
                · exact hk21 a24
                · refine g_iinc 2 rfl 1 (by decide) (fun x27 => [(2, .int x27), (0, .ref (wA Ω 0)), (1, .int x1), (3, .int a13.2)]) 147 rfl dX10_word_144 (by decide) (fun _ => rfl) ?_
                  intro x27
                  refine g_goto 133 (by decide) dX10_word_147 ?_
                  refine g_sub [(0, .ref (wA Ω 0)), (1, .int x1), (2, .int x27), (3, .int a13.2)] [1, 2, 0, 3] rfl ?_
                  exact hk25 x27
            · intro k19 hk19
              refine g_icmp_ne 133 (by decide) 101 rfl dX10_word_98 ?_ ?_
              · refine g_iload 4 rfl 103 rfl dX10_word_101 ?_
                refine g_aload_n 0 rfl rfl 104 rfl dX10_word_103 ?_
                refine w_get (lm_0 hX) rfl in_X10 9 (by decide) wf_X10_240 rfl 107 rfl dX10_word_104 ?_
                refine g_icmp_ne 133 (by decide) 110 rfl dX10_word_107 ?_ ?_
                · refine g_aload_n 0 rfl rfl 111 rfl dX10_word_110 ?_
                  refine w_get (lm_0 hX) rfl in_X10 9 (by decide) wf_X10_240 rfl 114 rfl dX10_word_111 ?_
                  refine g_iload_n 1 rfl rfl 115 rfl dX10_word_114 ?_
                  refine g_icmp_le 133 (by decide) 118 rfl dX10_word_115 ?_ ?_
                  · refine g_sub [(0, .ref (wA Ω 0)), (1, .int x1), (2, .int a15.1), (3, .int a13.2)] [0, 1, 2, 3] rfl ?_
                    exact hk19 ()
                  · refine g_sub [(0, .ref (wA Ω 0)), (3, .int a13.2)] [0, 3] rfl ?_
                    exact hk8 a13.2
                · refine g_sub [(0, .ref (wA Ω 0)), (1, .int x1), (2, .int a15.1), (3, .int a13.2)] [0, 1, 2, 3] rfl ?_
                  exact hk19 ()
              · refine g_sub [(0, .ref (wA Ω 0)), (1, .int x1), (2, .int a15.1), (3, .int a13.2)] [0, 1, 2, 3] rfl ?_
                exact hk19 ()
          · intro k16 hk16
            refine g_sub [(0, .ref (wA Ω 0)), (1, .int x1), (2, .int a13.1), (3, .int a13.2), (4, .int x1)] [1, 2, 3, 4, 0] rfl ?_
            refine g_loop 45 (fun a28 => [(0, .ref (wA Ω 0)), (1, .int x1), (2, .int a28.1), (3, .int a13.2), (4, .int a28.2)]) (fun _ => []) (fun a28 => a2) ?_ FU (a13.1, x1)
            intro k29 hk29 a28
            unfold fX10_word_L2
            refine s_ldc hK 19 (by decide) rfl 47 rfl dX10_word_45 ?_
            refine g_iload_n 2 rfl rfl 48 rfl dX10_word_47 ?_
            refine p_cK hK 19 (by decide) [.int a28.1] [] (c_J0_charAt l hO hK 19 (by decide) a2 a28.1) dX10_word_48 uv_X10_247 rfl yk_J0_charAt_5068e ⟨by decide, by decide⟩ (Nat.le_of_ble_eq_true rfl) rfl 51 rfl ?_
            intro x30
            refine g_bipush 58 53 rfl dX10_word_51 (by decide) ?_
            refine g_icmp_eq 90 (by decide) 56 rfl dX10_word_53 ?_ ?_
            · exact hk16 (a28.1, a28.2)
            · refine g_iload 4 rfl 58 rfl dX10_word_56 ?_
              refine g_aload_n 0 rfl rfl 59 rfl dX10_word_58 ?_
              refine w_get (lm_0 hX) rfl in_X10 9 (by decide) wf_X10_240 rfl 62 rfl dX10_word_59 ?_
              refine g_icmp_ge 90 (by decide) 65 rfl dX10_word_62 ?_ ?_
              · exact hk16 (a28.1, a28.2)
              · refine g_aload_n 0 rfl rfl 66 rfl dX10_word_65 ?_
                refine w_getR (lm_0 hX) rfl in_X10 7 (by decide) wf_X10_22 5 rfl 69 rfl dX10_word_66 ?_
                refine g_iload 4 rfl 71 rfl dX10_word_69 ?_
                refine w_iald (lm_5 hX) 72 rfl dX10_word_71 ?_
                refine s_ldc hK 19 (by decide) rfl 74 rfl dX10_word_72 ?_
                refine g_iload_n 2 rfl rfl 75 rfl dX10_word_74 ?_
                refine p_cK hK 19 (by decide) [.int a28.1] [.int (a2 5 a28.2.toNatClampNeg)] (c_J0_charAt l hO hK 19 (by decide) a2 a28.1) dX10_word_75 uv_X10_247 rfl yk_J0_charAt_5068e ⟨by decide, by decide⟩ (Nat.le_of_ble_eq_true rfl) rfl 78 rfl ?_
                intro x31
                refine g_icmp_ne 90 (by decide) 81 rfl dX10_word_78 ?_ ?_
                · refine g_iinc 4 rfl 1 (by decide) (fun x32 => [(4, .int x32), (0, .ref (wA Ω 0)), (1, .int x1), (2, .int a28.1), (3, .int a13.2)]) 84 rfl dX10_word_81 (by decide) (fun _ => rfl) ?_
                  intro x32
                  refine g_iinc 3 rfl 1 (by decide) (fun x33 => [(2, .int x33), (4, .int x32), (0, .ref (wA Ω 0)), (1, .int x1), (3, .int a13.2)]) 87 rfl dX10_word_84 (by decide) (fun _ => rfl) ?_
                  intro x33
                  refine g_goto 45 (by decide) dX10_word_87 ?_
                  refine g_sub [(0, .ref (wA Ω 0)), (1, .int x1), (2, .int x33), (3, .int a13.2), (4, .int x32)] [2, 3, 0, 4, 1] rfl ?_
                  exact hk29 (x33, x32)
                · exact hk16 (a28.1, a28.2)
  · intro k3 hk3
    refine g_sub [(0, .ref (wA Ω 0)), (1, .int x1)] [1, 0] rfl ?_
    refine g_loop 5 (fun a34 => [(0, .ref (wA Ω 0)), (1, .int x1)]) (fun _ => []) (fun a34 => a34) ?_ FU M
    intro k35 hk35 a34
    unfold fX10_word_L4
    refine g_aload_n 0 rfl rfl 6 rfl dX10_word_5 ?_
    refine p_cVI 0 [] [] (c_X10_here l hO hX a34) dX10_word_6 uv_X10_242 rfl yk_X10_here ⟨by decide, by decide⟩ (lm_0 hX).1 (lm_0 hX).2 rfl (Nat.le_of_ble_eq_true rfl) rfl 9 rfl ?_
    intro x36
    refine g_bipush 97 11 rfl dX10_word_9 (by decide) ?_
    refine g_bipush 122 13 rfl dX10_word_11 (by decide) ?_
    refine p_cSI [.int x36, .int 97, .int 122] [] (c_X10_in l hO a34 x36 97 122) dX10_word_13 us_X10_70 rfl yk_X10_in ⟨by decide, by decide⟩ (Nat.le_of_ble_eq_true rfl) rfl 16 rfl ?_
    intro x37
    refine g_if_eq 32 (by decide) 19 rfl dX10_word_16 ?_ ?_
    · exact hk3 a34
    · refine g_aload_n 0 rfl rfl 20 rfl dX10_word_19 ?_
      refine g_dup 21 rfl dX10_word_20 rfl ?_
      refine w_get (lm_0 hX) rfl in_X10 9 (by decide) wf_X10_240 rfl 24 rfl dX10_word_21 ?_
      refine g_iconst 1 25 rfl dX10_word_24 (by decide) ?_
      refine g_iadd 26 rfl dX10_word_25 ?_
      refine w_put (lm_0 hX) rfl in_X10 9 (by decide) wf_X10_240 tyX10 tyX10_ok nmX10 rfl rfl rfl rfl 29 rfl dX10_word_26 ?_
      intro M38
      refine g_goto 5 (by decide) dX10_word_29 ?_
      exact hk35 M38
def fX10_text_L1 (k6 : (Int32 × Int32 × Mem) → Option (Int32 × Mem)) (k15 : Mem → Option (Int32 × Mem)) (k22 : (Int32 × Int32 × Int32 × Mem) → Option (Int32 × Mem)) (a21 : Int32 × Int32 × Int32 × Mem) : Option (Int32 × Mem) := if a21.2.2.1 = 0 then (k6 (a21.1, a21.2.1, a21.2.2.2)) else (bnd (a21.2.2.2 0 9) (fun x23 => cl (fX10_word a21.2.2.2) (fun x24 M25 => if x24 < 0 then (k15 M25) else (cl (fX10_items M25 x24) (fun x26 M27 => if x26 = 0 then (k15 M27) else (jn (fun (a28 : Int32 × Mem) => bnd (a21.1 + 1) (fun x30 => jn (fun (a31 : Int32) => k22 (x30, a28.1, a31, a28.2)) (fun k32 => if a28.2 0 8 ≤ a28.2 0 9 then (k32 0) else (k32 1)))) (fun k29 => if 0 ≤ a21.2.1 then (k29 (a21.2.1, M27)) else (cl (fX10_does M27 x24) (fun x33 M34 => if x33 ≤ 0 then (k29 (a21.2.1, M34)) else (k29 (x23, M34)))))))))))
def fX10_text (M : Mem)  : Option (Int32 × Mem) := cl (fX10_tries M) (fun u1 M2 => bnd (M2 0 11) (fun x3 => bnd (mset M2 0 9 0) (fun M4 => jn (fun (a5 : Int32 × Int32 × Mem) => bnd (mset a5.2.2 0 10 a5.2.1) (fun M7 => bnd (mset M7 0 8 0) (fun M8 => bnd (mset M8 0 21 a5.1) (fun M9 => jn (fun (a10 : Int32) => cl (fX10_ends M9 a10) (fun x12 M13 => some (x12, M13))) (fun k11 => if 0 ≤ a5.2.1 then (k11 2) else (k11 0)))))) (fun k6 => jn (fun (a14 : Mem) => bnd (mset a14 0 11 x3) (fun M16 => bnd (mset M16 0 10 (M16 0 9)) (fun M17 => bnd (mset M17 0 8 0) (fun M18 => cl (fX10_ends M18 1) (fun x19 M20 => some (x19, M20)))))) (fun k15 => lp (fX10_text_L1 k6 k15) FU (0, (-1), 1, M4))))))
set_option maxRecDepth 100000 in
set_option maxHeartbeats 4000000 in
theorem c_X10_text {Ω : Wd} (l : Launch) (hO : OkW Ω) (hX : LM Ω) {K V : Nat → Nat} (hK : StrOk Ω K V)  (M : Mem)  : ∀ r, fX10_text M  = some r → Ct l yX10_text (.code yX10_text cX10_text 7 (some .int)) 10 238 Ω [.ref (wA Ω 0)] M (cvI r) := by
  refine ofG [(0, .ref (wA Ω 0))] hO (by decide) rfl (Nat.le_of_ble_eq_true rfl) rfl ?_
  intro p e s m args below meth c
  unfold fX10_text
  refine g_aload_n 0 rfl rfl 1 rfl dX10_text_0 ?_
  refine g_cVV 0 [] [] (c_X10_tries l hO hX M) dX10_text_1 uv_X10_109 rfl yk_X10_tries ⟨by decide, by decide⟩ (lm_0 hX).1 (lm_0 hX).2 rfl (Nat.le_of_ble_eq_true rfl) rfl 4 rfl ?_
  intro u1 M2
  refine g_aload_n 0 rfl rfl 5 rfl dX10_text_4 ?_
  refine w_get (lm_0 hX) rfl in_X10 11 (by decide) wf_X10_50 rfl 8 rfl dX10_text_5 ?_
  refine g_istore_n (fun x3 => [(1, .int x3), (0, .ref (wA Ω 0))]) rfl 9 rfl dX10_text_8 (by decide) (fun _ => rfl) ?_
  intro x3
  refine g_aload_n 1 rfl rfl 10 rfl dX10_text_9 ?_
  refine g_iconst 0 11 rfl dX10_text_10 (by decide) ?_
  refine w_put (lm_0 hX) rfl in_X10 9 (by decide) wf_X10_240 tyX10 tyX10_ok nmX10 rfl rfl rfl rfl 14 rfl dX10_text_11 ?_
  intro M4
  refine g_iconst 0 15 rfl dX10_text_14 (by decide) ?_
  refine g_istore_nA [(2, .int 0), (1, .int x3), (0, .ref (wA Ω 0))] rfl 16 rfl dX10_text_15 (by decide) rfl ?_
  refine g_iconst (-1) 17 rfl dX10_text_16 (by decide) ?_
  refine g_istore_nA [(3, .int (-1)), (2, .int 0), (1, .int x3), (0, .ref (wA Ω 0))] rfl 18 rfl dX10_text_17 (by decide) rfl ?_
  refine g_iconst 1 19 rfl dX10_text_18 (by decide) ?_
  refine g_istoreA [(4, .int 1), (3, .int (-1)), (2, .int 0), (1, .int x3), (0, .ref (wA Ω 0))] 21 rfl dX10_text_19 (by decide) rfl ?_
  refine g_join 116 (fun a5 => [(0, .ref (wA Ω 0)), (2, .int a5.1), (3, .int a5.2.1)]) (fun a5 => []) (fun a5 => a5.2.2) ?_ ?_
  · intro a5
    refine g_aload_n 0 rfl rfl 117 rfl dX10_text_116 ?_
    refine g_iload_n 2 rfl rfl 118 rfl dX10_text_117 ?_
    refine w_put (lm_0 hX) rfl in_X10 10 (by decide) wf_X10_25 tyX10 tyX10_ok nmX10 rfl rfl rfl rfl 121 rfl dX10_text_118 ?_
    intro M7
    refine g_aload_n 0 rfl rfl 122 rfl dX10_text_121 ?_
    refine g_iconst 0 123 rfl dX10_text_122 (by decide) ?_
    refine w_put (lm_0 hX) rfl in_X10 8 (by decide) wf_X10_232 tyX10 tyX10_ok nmX10 rfl rfl rfl rfl 126 rfl dX10_text_123 ?_
    intro M8
    refine g_aload_n 0 rfl rfl 127 rfl dX10_text_126 ?_
    refine g_iload_n 1 rfl rfl 128 rfl dX10_text_127 ?_
    refine w_put (lm_0 hX) rfl in_X10 21 (by decide) wf_X10_102 tyX10 tyX10_ok nmX10 rfl rfl rfl rfl 131 rfl dX10_text_128 ?_
    intro M9
    refine g_aload_n 0 rfl rfl 132 rfl dX10_text_131 ?_
    refine g_iload_n 2 rfl rfl 133 rfl dX10_text_132 ?_
    refine g_join 141 (fun a10 => []) (fun a10 => [.int a10, .ref (wA Ω 0)]) (fun a10 => M9) ?_ ?_
    · intro a10
      refine g_cVI 0 [.int a10] [] (c_X10_ends l hO hX M9 a10) dX10_text_141 uv_X10_115 rfl yk_X10_ends ⟨by decide, by decide⟩ (lm_0 hX).1 (lm_0 hX).2 rfl (Nat.le_of_ble_eq_true rfl) rfl 144 rfl ?_
      intro x12 M13
      exact g_iret rfl dX10_text_144
    · intro k11 hk11
      refine g_if_ge 140 (by decide) 136 rfl dX10_text_133 ?_ ?_
      · refine g_iconst 2 141 rfl dX10_text_140 (by decide) ?_
        refine g_sub [] [] rfl ?_
        exact hk11 2
      · refine g_iconst 0 137 rfl dX10_text_136 (by decide) ?_
        refine g_goto 141 (by decide) dX10_text_137 ?_
        refine g_sub [] [] rfl ?_
        exact hk11 0
  · intro k6 hk6
    refine g_join 52 (fun a14 => [(0, .ref (wA Ω 0)), (1, .int x3)]) (fun a14 => []) (fun a14 => a14) ?_ ?_
    · intro a14
      refine g_aload_n 0 rfl rfl 53 rfl dX10_text_52 ?_
      refine g_iload_n 1 rfl rfl 54 rfl dX10_text_53 ?_
      refine w_put (lm_0 hX) rfl in_X10 11 (by decide) wf_X10_50 tyX10 tyX10_ok nmX10 rfl rfl rfl rfl 57 rfl dX10_text_54 ?_
      intro M16
      refine g_aload_n 0 rfl rfl 58 rfl dX10_text_57 ?_
      refine g_aload_n 0 rfl rfl 59 rfl dX10_text_58 ?_
      refine w_get (lm_0 hX) rfl in_X10 9 (by decide) wf_X10_240 rfl 62 rfl dX10_text_59 ?_
      refine w_put (lm_0 hX) rfl in_X10 10 (by decide) wf_X10_25 tyX10 tyX10_ok nmX10 rfl rfl rfl rfl 65 rfl dX10_text_62 ?_
      intro M17
      refine g_aload_n 0 rfl rfl 66 rfl dX10_text_65 ?_
      refine g_iconst 0 67 rfl dX10_text_66 (by decide) ?_
      refine w_put (lm_0 hX) rfl in_X10 8 (by decide) wf_X10_232 tyX10 tyX10_ok nmX10 rfl rfl rfl rfl 70 rfl dX10_text_67 ?_
      intro M18
      refine g_aload_n 0 rfl rfl 71 rfl dX10_text_70 ?_
      refine g_iconst 1 72 rfl dX10_text_71 (by decide) ?_
      refine g_cVI 0 [.int 1] [] (c_X10_ends l hO hX M18 1) dX10_text_72 uv_X10_115 rfl yk_X10_ends ⟨by decide, by decide⟩ (lm_0 hX).1 (lm_0 hX).2 rfl (Nat.le_of_ble_eq_true rfl) rfl 75 rfl ?_
      intro x19 M20
      exact g_iret rfl dX10_text_75
    · intro k15 hk15
      refine g_sub [(0, .ref (wA Ω 0)), (1, .int x3), (2, .int 0), (3, .int (-1)), (4, .int 1)] [4, 3, 2, 1, 0] rfl ?_
      refine g_loop 21 (fun a21 => [(0, .ref (wA Ω 0)), (1, .int x3), (2, .int a21.1), (3, .int a21.2.1), (4, .int a21.2.2.1)]) (fun _ => []) (fun a21 => a21.2.2.2) ?_ FU (0, (-1), 1, M4)
      intro k22 hk22 a21
      unfold fX10_text_L1
      refine g_iload 4 rfl 23 rfl dX10_text_21 ?_
      refine g_if_eq 116 (by decide) 26 rfl dX10_text_23 ?_ ?_
      · refine g_sub [(0, .ref (wA Ω 0)), (2, .int a21.1), (3, .int a21.2.1)] [0, 2, 3] rfl ?_
        exact hk6 (a21.1, a21.2.1, a21.2.2.2)
      · refine g_aload_n 0 rfl rfl 27 rfl dX10_text_26 ?_
        refine w_get (lm_0 hX) rfl in_X10 9 (by decide) wf_X10_240 rfl 30 rfl dX10_text_27 ?_
        refine g_istore (fun x23 => [(5, .int x23), (0, .ref (wA Ω 0)), (1, .int x3), (2, .int a21.1), (3, .int a21.2.1), (4, .int a21.2.2.1)]) 32 rfl dX10_text_30 (by decide) (fun _ => rfl) ?_
        intro x23
        refine g_aload_n 1 rfl rfl 33 rfl dX10_text_32 ?_
        refine g_cVI 0 [] [] (c_X10_word l hO hX hK a21.2.2.2) dX10_text_33 uv_X10_259 rfl yk_X10_word ⟨by decide, by decide⟩ (lm_0 hX).1 (lm_0 hX).2 rfl (Nat.le_of_ble_eq_true rfl) rfl 36 rfl ?_
        intro x24 M25
        refine g_istoreA [(6, .int x24), (5, .int x23), (0, .ref (wA Ω 0)), (1, .int x3), (2, .int a21.1), (3, .int a21.2.1), (4, .int a21.2.2.1)] 38 rfl dX10_text_36 (by decide) rfl ?_
        refine g_iload 0 rfl 40 rfl dX10_text_38 ?_
        refine g_if_lt 52 (by decide) 43 rfl dX10_text_40 ?_ ?_
        · refine g_sub [(0, .ref (wA Ω 0)), (1, .int x3)] [2, 3] rfl ?_
          exact hk15 M25
        · refine g_aload_n 2 rfl rfl 44 rfl dX10_text_43 ?_
          refine g_iload 0 rfl 46 rfl dX10_text_44 ?_
          refine g_cVI 0 [.int x24] [] (c_X10_items l hO hX M25 x24) dX10_text_46 uv_X10_262 rfl yk_X10_items ⟨by decide, by decide⟩ (lm_0 hX).1 (lm_0 hX).2 rfl (Nat.le_of_ble_eq_true rfl) rfl 49 rfl ?_
          intro x26 M27
          refine g_if_ne 76 (by decide) 52 rfl dX10_text_49 ?_ ?_
          · refine g_sub [(0, .ref (wA Ω 0)), (1, .int x3)] [2, 3] rfl ?_
            exact hk15 M27
          · refine g_iload_n 5 rfl rfl 77 rfl dX10_text_76 ?_
            refine g_join 92 (fun a28 => [(0, .ref (wA Ω 0)), (1, .int x3), (2, .int a21.1), (3, .int a28.1)]) (fun a28 => []) (fun a28 => a28.2) ?_ ?_
            · intro a28
              refine g_iinc 2 rfl 1 (by decide) (fun x30 => [(2, .int x30), (0, .ref (wA Ω 0)), (1, .int x3), (3, .int a28.1)]) 95 rfl dX10_text_92 (by decide) (fun _ => rfl) ?_
              intro x30
              refine g_aload_n 1 rfl rfl 96 rfl dX10_text_95 ?_
              refine w_get (lm_0 hX) rfl in_X10 9 (by decide) wf_X10_240 rfl 99 rfl dX10_text_96 ?_
              refine g_aload_n 1 rfl rfl 100 rfl dX10_text_99 ?_
              refine w_get (lm_0 hX) rfl in_X10 8 (by decide) wf_X10_232 rfl 103 rfl dX10_text_100 ?_
              refine g_join 111 (fun a31 => [(0, .ref (wA Ω 0)), (1, .int x3), (2, .int x30), (3, .int a28.1)]) (fun a31 => [.int a31]) (fun a31 => a28.2) ?_ ?_
              · intro a31
                refine g_istoreA [(4, .int a31), (0, .ref (wA Ω 0)), (1, .int x3), (2, .int x30), (3, .int a28.1)] 113 rfl dX10_text_111 (by decide) rfl ?_
                refine g_goto 21 (by decide) dX10_text_113 ?_
                refine g_sub [(0, .ref (wA Ω 0)), (1, .int x3), (2, .int x30), (3, .int a28.1), (4, .int a31)] [1, 2, 3, 4, 0] rfl ?_
                exact hk22 (x30, a28.1, a31, a28.2)
              · intro k32 hk32
                refine g_icmp_ge 110 (by decide) 106 rfl dX10_text_103 ?_ ?_
                · refine g_iconst 0 111 rfl dX10_text_110 (by decide) ?_
                  refine g_sub [(0, .ref (wA Ω 0)), (1, .int x3), (2, .int x30), (3, .int a28.1)] [1, 2, 0, 3] rfl ?_
                  exact hk32 0
                · refine g_iconst 1 107 rfl dX10_text_106 (by decide) ?_
                  refine g_goto 111 (by decide) dX10_text_107 ?_
                  refine g_sub [(0, .ref (wA Ω 0)), (1, .int x3), (2, .int x30), (3, .int a28.1)] [1, 2, 0, 3] rfl ?_
                  exact hk32 1
            · intro k29 hk29
              refine g_if_ge 92 (by decide) 80 rfl dX10_text_77 ?_ ?_
              · refine g_sub [(0, .ref (wA Ω 0)), (1, .int x3), (2, .int a21.1), (3, .int a21.2.1)] [2, 3, 4, 5] rfl ?_
                exact hk29 (a21.2.1, M27)
              · refine g_aload_n 2 rfl rfl 81 rfl dX10_text_80 ?_
                refine g_iload 0 rfl 83 rfl dX10_text_81 ?_
                refine g_cVI 0 [.int x24] [] (c_X10_does l hO hX M27 x24) dX10_text_83 uv_X10_265 rfl yk_X10_does ⟨by decide, by decide⟩ (lm_0 hX).1 (lm_0 hX).2 rfl (Nat.le_of_ble_eq_true rfl) rfl 86 rfl ?_
                intro x33 M34
                refine g_if_le 92 (by decide) 89 rfl dX10_text_86 ?_ ?_
                · refine g_sub [(0, .ref (wA Ω 0)), (1, .int x3), (2, .int a21.1), (3, .int a21.2.1)] [2, 3, 4, 5] rfl ?_
                  exact hk29 (a21.2.1, M34)
                · refine g_iload 1 rfl 91 rfl dX10_text_89 ?_
                  refine g_istore_nA [(3, .int x23), (6, .int x24), (5, .int x23), (0, .ref (wA Ω 0)), (1, .int x3), (2, .int a21.1), (4, .int a21.2.2.1)] rfl 92 rfl dX10_text_91 (by decide) rfl ?_
                  refine g_sub [(0, .ref (wA Ω 0)), (1, .int x3), (2, .int a21.1), (3, .int x23)] [3, 4, 5, 0] rfl ?_
                  exact hk29 (x23, M34)
def fX10_writes_L1 (i0 : Nat) (k2 : (Int32 × Mem) → Option (Unit × Mem)) (a1 : Int32 × Mem) : Option (Unit × Mem) := clp (fJ0_length i0 ) (fun x3 => if x3 ≤ a1.1 then (some ((), a1.2)) else (bnd (mset a1.2 0 13 ((a1.2 0 13) + 1)) (fun M4 => clp (fJ0_charAt i0 a1.1) (fun x5 => grd (inb (a1.2 0 13) 120) (bnd (mset M4 6 (a1.2 0 13).toNatClampNeg x5) (fun M6 => bnd (a1.1 + 1) (fun x7 => k2 (x7, M6))))))))
def fX10_writes (M : Mem) (i0 : Nat) : Option (Unit × Mem) := lp (fX10_writes_L1 i0) FU (0, M)
set_option maxRecDepth 100000 in
set_option maxHeartbeats 4000000 in
theorem c_X10_writes {Ω : Wd} (l : Launch) (hO : OkW Ω) (hX : LM Ω) {K V : Nat → Nat} (hK : StrOk Ω K V) {i0 : Nat} (hi0 : i0 < 35) (M : Mem)  : ∀ r, fX10_writes M i0 = some r → Ct l yX10_writes (.code yX10_writes cX10_writes 3 none) 4 85 Ω [.ref (wA Ω 0), .ref (K i0)] M (cvV r) := by
  refine ofG [(0, .ref (wA Ω 0)), (1, .ref (K i0))] hO (by decide) rfl (Nat.le_of_ble_eq_true rfl) rfl ?_
  intro p e s m args below meth c
  unfold fX10_writes
  refine g_iconst 0 1 rfl dX10_writes_0 (by decide) ?_
  refine g_istore_nA [(2, .int 0), (0, .ref (wA Ω 0)), (1, .ref (K i0))] rfl 2 rfl dX10_writes_1 (by decide) rfl ?_
  refine g_sub [(0, .ref (wA Ω 0)), (1, .ref (K i0)), (2, .int 0)] [1, 2, 0] rfl ?_
  refine g_loop 2 (fun a1 => [(0, .ref (wA Ω 0)), (1, .ref (K i0)), (2, .int a1.1)]) (fun _ => []) (fun a1 => a1.2) ?_ FU (0, M)
  intro k2 hk2 a1
  unfold fX10_writes_L1
  refine g_iload_n 2 rfl rfl 3 rfl dX10_writes_2 ?_
  refine g_aload_n 1 rfl rfl 4 rfl dX10_writes_3 ?_
  refine p_cK hK i0 hi0 [] [.int a1.1] (c_J0_length l hO hK i0 hi0 a1.2 ) dX10_writes_4 uv_X10_268 rfl yk_J0_length_8abf5 ⟨by decide, by decide⟩ (Nat.le_of_ble_eq_true rfl) rfl 7 rfl ?_
  intro x3
  refine g_icmp_ge 37 (by decide) 10 rfl dX10_writes_7 ?_ ?_
  · exact g_vret rfl dX10_writes_37
  · refine g_aload_n 0 rfl rfl 11 rfl dX10_writes_10 ?_
    refine w_getR (lm_0 hX) rfl in_X10 12 (by decide) wf_X10_29 6 rfl 14 rfl dX10_writes_11 ?_
    refine g_aload_n 0 rfl rfl 15 rfl dX10_writes_14 ?_
    refine g_dup 16 rfl dX10_writes_15 rfl ?_
    refine w_get (lm_0 hX) rfl in_X10 13 (by decide) wf_X10_270 rfl 19 rfl dX10_writes_16 ?_
    refine g_dup_x1 20 rfl dX10_writes_19 rfl rfl ?_
    refine g_iconst 1 21 rfl dX10_writes_20 (by decide) ?_
    refine g_iadd 22 rfl dX10_writes_21 ?_
    refine w_put (lm_0 hX) rfl in_X10 13 (by decide) wf_X10_270 tyX10 tyX10_ok nmX10 rfl rfl rfl rfl 25 rfl dX10_writes_22 ?_
    intro M4
    refine g_aload_n 1 rfl rfl 26 rfl dX10_writes_25 ?_
    refine g_iload_n 2 rfl rfl 27 rfl dX10_writes_26 ?_
    refine p_cK hK i0 hi0 [.int a1.1] [.int (a1.2 0 13), .ref (wA Ω 6)] (c_J0_charAt l hO hK i0 hi0 M4 a1.1) dX10_writes_27 uv_X10_247 rfl yk_J0_charAt_5068e ⟨by decide, by decide⟩ (Nat.le_of_ble_eq_true rfl) rfl 30 rfl ?_
    intro x5
    refine w_iast (lm_6 hX) 31 rfl dX10_writes_30 ?_
    intro M6
    refine g_iinc 2 rfl 1 (by decide) (fun x7 => [(2, .int x7), (0, .ref (wA Ω 0)), (1, .ref (K i0))]) 34 rfl dX10_writes_31 (by decide) (fun _ => rfl) ?_
    intro x7
    refine g_goto 2 (by decide) dX10_writes_34 ?_
    refine g_sub [(0, .ref (wA Ω 0)), (1, .ref (K i0)), (2, .int x7)] [1, 2, 0] rfl ?_
    exact hk2 (x7, M6)
def fX10_lists_L1 (p0 : Int32) (p1 : Int32) (k8 : (Int32 × Mem) → Option (Unit × Mem)) (a7 : Int32 × Mem) : Option (Unit × Mem) := if p0 ≤ a7.1 then (some ((), a7.2)) else (jn (fun (a9 : Mem) => bnd (a7.1 + 1) (fun x11 => k8 (x11, a9))) (fun k10 => if (p1 >>> (a7.1 &&& 31)) &&& 1 = 0 then (k10 a7.2) else (cl (fX10_writes a7.2 27) (fun u12 M13 => cl (fX10_writes_ 8 M13 a7.1) (fun u14 M15 => k10 M15)))))
def fX10_lists (M : Mem) (p0 : Int32) (p1 : Int32) (i2 : Nat) : Option (Unit × Mem) := cl (fX10_writes M 25) (fun u1 M2 => jn (fun (a3 : Mem) => cl (fX10_writes a3 i2) (fun u5 M6 => lp (fX10_lists_L1 p0 p1) FU (0, M6))) (fun k4 => if p1 = 0 then (cl (fX10_writes M2 26) (fun u16 M17 => k4 M17)) else (k4 M2)))
set_option maxRecDepth 100000 in
set_option maxHeartbeats 4000000 in
theorem c_X10_lists {Ω : Wd} (l : Launch) (hO : OkW Ω) (hX : LM Ω) {K V : Nat → Nat} (hK : StrOk Ω K V) {i2 : Nat} (hi2 : i2 < 35) (M : Mem) (p0 : Int32) (p1 : Int32) : ∀ r, fX10_lists M p0 p1 i2 = some r → Ct l yX10_lists (.code yX10_lists cX10_lists 5 none) 9 197 Ω [.ref (wA Ω 0), .int p0, .int p1, .ref (K i2)] M (cvV r) := by
  refine ofG [(0, .ref (wA Ω 0)), (1, .int p0), (2, .int p1), (3, .ref (K i2))] hO (by decide) rfl (Nat.le_of_ble_eq_true rfl) rfl ?_
  intro p e s m args below meth c
  unfold fX10_lists
  refine g_aload_n 0 rfl rfl 1 rfl dX10_lists_0 ?_
  refine s_ldcw hK 25 (by decide) rfl 4 rfl dX10_lists_1 ?_
  refine g_cVV 0 [.ref (K 25)] [] (c_X10_writes l hO hX hK (by decide) M) dX10_lists_4 uv_X10_279 rfl yk_X10_writes ⟨by decide, by decide⟩ (lm_0 hX).1 (lm_0 hX).2 rfl (Nat.le_of_ble_eq_true rfl) rfl 7 rfl ?_
  intro u1 M2
  refine g_iload_n 2 rfl rfl 8 rfl dX10_lists_7 ?_
  refine g_join 18 (fun a3 => [(0, .ref (wA Ω 0)), (1, .int p0), (2, .int p1), (3, .ref (K i2))]) (fun a3 => []) (fun a3 => a3) ?_ ?_
  · intro a3
    refine g_aload_n 0 rfl rfl 19 rfl dX10_lists_18 ?_
    refine g_aload_n 3 rfl rfl 20 rfl dX10_lists_19 ?_
    refine g_cVV 0 [.ref (K i2)] [] (c_X10_writes l hO hX hK hi2 a3) dX10_lists_20 uv_X10_279 rfl yk_X10_writes ⟨by decide, by decide⟩ (lm_0 hX).1 (lm_0 hX).2 rfl (Nat.le_of_ble_eq_true rfl) rfl 23 rfl ?_
    intro u5 M6
    refine g_iconst 0 24 rfl dX10_lists_23 (by decide) ?_
    refine g_istoreA [(4, .int 0), (0, .ref (wA Ω 0)), (1, .int p0), (2, .int p1), (3, .ref (K i2))] 26 rfl dX10_lists_24 (by decide) rfl ?_
    refine g_sub [(0, .ref (wA Ω 0)), (1, .int p0), (2, .int p1), (4, .int 0)] [1, 2, 3, 0] rfl ?_
    refine g_loop 26 (fun a7 => [(0, .ref (wA Ω 0)), (1, .int p0), (2, .int p1), (4, .int a7.1)]) (fun _ => []) (fun a7 => a7.2) ?_ FU (0, M6)
    intro k8 hk8 a7
    unfold fX10_lists_L1
    refine g_iload 3 rfl 28 rfl dX10_lists_26 ?_
    refine g_iload_n 1 rfl rfl 29 rfl dX10_lists_28 ?_
    refine g_icmp_ge 63 (by decide) 32 rfl dX10_lists_29 ?_ ?_
    · exact g_vret rfl dX10_lists_63
    · refine g_iload_n 2 rfl rfl 33 rfl dX10_lists_32 ?_
      refine g_iload 3 rfl 35 rfl dX10_lists_33 ?_
      refine g_ishr 36 rfl dX10_lists_35 ?_
      refine g_iconst 1 37 rfl dX10_lists_36 (by decide) ?_
      refine g_iand 38 rfl dX10_lists_37 ?_
      refine g_join 57 (fun a9 => [(0, .ref (wA Ω 0)), (1, .int p0), (2, .int p1), (4, .int a7.1)]) (fun a9 => []) (fun a9 => a9) ?_ ?_
      · intro a9
        refine g_iinc 3 rfl 1 (by decide) (fun x11 => [(4, .int x11), (0, .ref (wA Ω 0)), (1, .int p0), (2, .int p1)]) 60 rfl dX10_lists_57 (by decide) (fun _ => rfl) ?_
        intro x11
        refine g_goto 26 (by decide) dX10_lists_60 ?_
        refine g_sub [(0, .ref (wA Ω 0)), (1, .int p0), (2, .int p1), (4, .int x11)] [1, 2, 3, 0] rfl ?_
        exact hk8 (x11, a9)
      · intro k10 hk10
        refine g_if_ne 44 (by decide) 41 rfl dX10_lists_38 ?_ ?_
        · refine g_goto 57 (by decide) dX10_lists_41 ?_
          exact hk10 a7.2
        · refine g_aload_n 0 rfl rfl 45 rfl dX10_lists_44 ?_
          refine s_ldcw hK 27 (by decide) rfl 48 rfl dX10_lists_45 ?_
          refine g_cVV 0 [.ref (K 27)] [] (c_X10_writes l hO hX hK (by decide) a7.2) dX10_lists_48 uv_X10_279 rfl yk_X10_writes ⟨by decide, by decide⟩ (lm_0 hX).1 (lm_0 hX).2 rfl (Nat.le_of_ble_eq_true rfl) rfl 51 rfl ?_
          intro u12 M13
          refine g_aload_n 0 rfl rfl 52 rfl dX10_lists_51 ?_
          refine g_iload 3 rfl 54 rfl dX10_lists_52 ?_
          refine g_cVV 0 [.int a7.1] [] (c_X10_writes_ l hO hX 8 M13 a7.1) dX10_lists_54 uv_X10_273 rfl yk_X10_writes_ ⟨by decide, by decide⟩ (lm_0 hX).1 (lm_0 hX).2 rfl (Nat.le_of_ble_eq_true rfl) rfl 57 rfl ?_
          intro u14 M15
          exact hk10 M15
  · intro k4 hk4
    refine g_if_ne 18 (by decide) 11 rfl dX10_lists_8 ?_ ?_
    · refine g_aload_n 0 rfl rfl 12 rfl dX10_lists_11 ?_
      refine s_ldcw hK 26 (by decide) rfl 15 rfl dX10_lists_12 ?_
      refine g_cVV 0 [.ref (K 26)] [] (c_X10_writes l hO hX hK (by decide) M2) dX10_lists_15 uv_X10_279 rfl yk_X10_writes ⟨by decide, by decide⟩ (lm_0 hX).1 (lm_0 hX).2 rfl (Nat.le_of_ble_eq_true rfl) rfl 18 rfl ?_
      intro u16 M17
      exact hk4 M17
    · exact hk4 M2
def fX10_report (M : Mem) (p0 : Int32) : Option (Int32 × Mem) := bnd (mset M 0 0 0) (fun M1 => clp (fX10_isJunction M1 p0) (fun x2 => if x2 = 0 then (cl (fX10_raises M1 1) (fun x33 M34 => some (x33, M34))) else (bnd (mset M1 0 13 0) (fun M3 => cl (fX10_writes M3 20) (fun u4 M5 => cl (fX10_writes_ 8 M5 p0) (fun u6 M7 => cl (fX10_writes M7 21) (fun u8 M9 => clp (fX10_of M9 p0 0) (fun x10 => cl (fX10_writes_ 8 M9 x10) (fun u11 M12 => cl (fX10_writes M12 22) (fun u13 M14 => clp (fX10_of M14 p0 3) (fun x15 => cl (fX10_writes_ 8 M14 x15) (fun u16 M17 => cl (fX10_writes M17 23) (fun u18 M19 => grd (inb 3 490) (clp (fX10_local M19 p0 (M19 1 (3 : Int32).toNatClampNeg)) (fun x20 => cl (fX10_writes_ 8 M19 x20) (fun u21 M22 => clp (fX10_of M22 p0 3) (fun x23 => grd (inb 3 490) (clp (fX10_local M22 p0 (M22 1 (3 : Int32).toNatClampNeg)) (fun x24 => clp (fX10_shown M22 p0 x23 x24) (fun x25 => clp (fX10_of M22 p0 2) (fun x26 => cl (fX10_lists M22 x26 x25 24) (fun u27 M28 => clp (fX10_of M28 p0 2) (fun x29 => clp (fX10_of M28 p0 2) (fun x30 => cl (fX10_lists M28 x29 (((1 <<< (x30 &&& 31)) - 1) &&& (x25 ^^^ (-1))) 28) (fun u31 M32 => some (M32 0 13, M32))))))))))))))))))))))))))
set_option maxRecDepth 100000 in
set_option maxHeartbeats 4000000 in
theorem c_X10_report {Ω : Wd} (l : Launch) (hO : OkW Ω) (hX : LM Ω) {K V : Nat → Nat} (hK : StrOk Ω K V)  (M : Mem) (p0 : Int32) : ∀ r, fX10_report M p0 = some r → Ct l yX10_report (.code yX10_report cX10_report 3 (some .int)) 10 221 Ω [.ref (wA Ω 0), .int p0] M (cvI r) := by
  refine ofG [(0, .ref (wA Ω 0)), (1, .int p0)] hO (by decide) rfl (Nat.le_of_ble_eq_true rfl) rfl ?_
  intro p e s m args below meth c
  unfold fX10_report
  refine g_aload_n 0 rfl rfl 1 rfl dX10_report_0 ?_
  refine g_iconst 0 2 rfl dX10_report_1 (by decide) ?_
  refine w_put (lm_0 hX) rfl in_X10 0 (by decide) wf_X10_47 tyX10 tyX10_ok nmX10 rfl rfl rfl rfl 5 rfl dX10_report_2 ?_
  intro M1
  refine g_aload_n 0 rfl rfl 6 rfl dX10_report_5 ?_
  refine g_iload_n 1 rfl rfl 7 rfl dX10_report_6 ?_
  refine p_cVI 0 [.int p0] [] (c_X10_isJunction l hO hX M1 p0) dX10_report_7 uv_X10_74 rfl yk_X10_isJunction ⟨by decide, by decide⟩ (lm_0 hX).1 (lm_0 hX).2 rfl (Nat.le_of_ble_eq_true rfl) rfl 10 rfl ?_
  intro x2
  refine g_if_ne 19 (by decide) 13 rfl dX10_report_10 ?_ ?_
  · refine g_aload_n 0 rfl rfl 14 rfl dX10_report_13 ?_
    refine g_iconst 1 15 rfl dX10_report_14 (by decide) ?_
    refine g_cVI 0 [.int 1] [] (c_X10_raises l hO hX M1 1) dX10_report_15 uv_X10_53 rfl yk_X10_raises ⟨by decide, by decide⟩ (lm_0 hX).1 (lm_0 hX).2 rfl (Nat.le_of_ble_eq_true rfl) rfl 18 rfl ?_
    intro x33 M34
    exact g_iret rfl dX10_report_18
  · refine g_aload_n 0 rfl rfl 20 rfl dX10_report_19 ?_
    refine g_iconst 0 21 rfl dX10_report_20 (by decide) ?_
    refine w_put (lm_0 hX) rfl in_X10 13 (by decide) wf_X10_270 tyX10 tyX10_ok nmX10 rfl rfl rfl rfl 24 rfl dX10_report_21 ?_
    intro M3
    refine g_aload_n 0 rfl rfl 25 rfl dX10_report_24 ?_
    refine s_ldcw hK 20 (by decide) rfl 28 rfl dX10_report_25 ?_
    refine g_cVV 0 [.ref (K 20)] [] (c_X10_writes l hO hX hK (by decide) M3) dX10_report_28 uv_X10_279 rfl yk_X10_writes ⟨by decide, by decide⟩ (lm_0 hX).1 (lm_0 hX).2 rfl (Nat.le_of_ble_eq_true rfl) rfl 31 rfl ?_
    intro u4 M5
    refine g_aload_n 0 rfl rfl 32 rfl dX10_report_31 ?_
    refine g_iload_n 1 rfl rfl 33 rfl dX10_report_32 ?_
    refine g_cVV 0 [.int p0] [] (c_X10_writes_ l hO hX 8 M5 p0) dX10_report_33 uv_X10_273 rfl yk_X10_writes_ ⟨by decide, by decide⟩ (lm_0 hX).1 (lm_0 hX).2 rfl (Nat.le_of_ble_eq_true rfl) rfl 36 rfl ?_
    intro u6 M7
    refine g_aload_n 0 rfl rfl 37 rfl dX10_report_36 ?_
    refine s_ldcw hK 21 (by decide) rfl 40 rfl dX10_report_37 ?_
    refine g_cVV 0 [.ref (K 21)] [] (c_X10_writes l hO hX hK (by decide) M7) dX10_report_40 uv_X10_279 rfl yk_X10_writes ⟨by decide, by decide⟩ (lm_0 hX).1 (lm_0 hX).2 rfl (Nat.le_of_ble_eq_true rfl) rfl 43 rfl ?_
    intro u8 M9
    refine g_aload_n 0 rfl rfl 44 rfl dX10_report_43 ?_
    refine g_aload_n 0 rfl rfl 45 rfl dX10_report_44 ?_
    refine g_iload_n 1 rfl rfl 46 rfl dX10_report_45 ?_
    refine g_iconst 0 47 rfl dX10_report_46 (by decide) ?_
    refine p_cVI 0 [.int p0, .int 0] [.ref (wA Ω 0)] (c_X10_of l hO hX M9 p0 0) dX10_report_47 uv_X10_78 rfl yk_X10_of ⟨by decide, by decide⟩ (lm_0 hX).1 (lm_0 hX).2 rfl (Nat.le_of_ble_eq_true rfl) rfl 50 rfl ?_
    intro x10
    refine g_cVV 0 [.int x10] [] (c_X10_writes_ l hO hX 8 M9 x10) dX10_report_50 uv_X10_273 rfl yk_X10_writes_ ⟨by decide, by decide⟩ (lm_0 hX).1 (lm_0 hX).2 rfl (Nat.le_of_ble_eq_true rfl) rfl 53 rfl ?_
    intro u11 M12
    refine g_aload_n 0 rfl rfl 54 rfl dX10_report_53 ?_
    refine s_ldcw hK 22 (by decide) rfl 57 rfl dX10_report_54 ?_
    refine g_cVV 0 [.ref (K 22)] [] (c_X10_writes l hO hX hK (by decide) M12) dX10_report_57 uv_X10_279 rfl yk_X10_writes ⟨by decide, by decide⟩ (lm_0 hX).1 (lm_0 hX).2 rfl (Nat.le_of_ble_eq_true rfl) rfl 60 rfl ?_
    intro u13 M14
    refine g_aload_n 0 rfl rfl 61 rfl dX10_report_60 ?_
    refine g_aload_n 0 rfl rfl 62 rfl dX10_report_61 ?_
    refine g_iload_n 1 rfl rfl 63 rfl dX10_report_62 ?_
    refine g_iconst 3 64 rfl dX10_report_63 (by decide) ?_
    refine p_cVI 0 [.int p0, .int 3] [.ref (wA Ω 0)] (c_X10_of l hO hX M14 p0 3) dX10_report_64 uv_X10_78 rfl yk_X10_of ⟨by decide, by decide⟩ (lm_0 hX).1 (lm_0 hX).2 rfl (Nat.le_of_ble_eq_true rfl) rfl 67 rfl ?_
    intro x15
    refine g_cVV 0 [.int x15] [] (c_X10_writes_ l hO hX 8 M14 x15) dX10_report_67 uv_X10_273 rfl yk_X10_writes_ ⟨by decide, by decide⟩ (lm_0 hX).1 (lm_0 hX).2 rfl (Nat.le_of_ble_eq_true rfl) rfl 70 rfl ?_
    intro u16 M17
    refine g_aload_n 0 rfl rfl 71 rfl dX10_report_70 ?_
    refine s_ldcw hK 23 (by decide) rfl 74 rfl dX10_report_71 ?_
    refine g_cVV 0 [.ref (K 23)] [] (c_X10_writes l hO hX hK (by decide) M17) dX10_report_74 uv_X10_279 rfl yk_X10_writes ⟨by decide, by decide⟩ (lm_0 hX).1 (lm_0 hX).2 rfl (Nat.le_of_ble_eq_true rfl) rfl 77 rfl ?_
    intro u18 M19
    refine g_aload_n 0 rfl rfl 78 rfl dX10_report_77 ?_
    refine g_aload_n 0 rfl rfl 79 rfl dX10_report_78 ?_
    refine g_iload_n 1 rfl rfl 80 rfl dX10_report_79 ?_
    refine g_aload_n 0 rfl rfl 81 rfl dX10_report_80 ?_
    refine w_getR (lm_0 hX) rfl in_X10 1 (by decide) wf_X10_9 1 rfl 84 rfl dX10_report_81 ?_
    refine g_iconst 3 85 rfl dX10_report_84 (by decide) ?_
    refine w_iald (lm_1 hX) 86 rfl dX10_report_85 ?_
    refine p_cVI 0 [.int p0, .int (M19 1 (3 : Int32).toNatClampNeg)] [.ref (wA Ω 0)] (c_X10_local l hO hX M19 p0 (M19 1 (3 : Int32).toNatClampNeg)) dX10_report_86 uv_X10_124 rfl yk_X10_local ⟨by decide, by decide⟩ (lm_0 hX).1 (lm_0 hX).2 rfl (Nat.le_of_ble_eq_true rfl) rfl 89 rfl ?_
    intro x20
    refine g_cVV 0 [.int x20] [] (c_X10_writes_ l hO hX 8 M19 x20) dX10_report_89 uv_X10_273 rfl yk_X10_writes_ ⟨by decide, by decide⟩ (lm_0 hX).1 (lm_0 hX).2 rfl (Nat.le_of_ble_eq_true rfl) rfl 92 rfl ?_
    intro u21 M22
    refine g_aload_n 0 rfl rfl 93 rfl dX10_report_92 ?_
    refine g_iload_n 1 rfl rfl 94 rfl dX10_report_93 ?_
    refine g_aload_n 0 rfl rfl 95 rfl dX10_report_94 ?_
    refine g_iload_n 1 rfl rfl 96 rfl dX10_report_95 ?_
    refine g_iconst 3 97 rfl dX10_report_96 (by decide) ?_
    refine p_cVI 0 [.int p0, .int 3] [.int p0, .ref (wA Ω 0)] (c_X10_of l hO hX M22 p0 3) dX10_report_97 uv_X10_78 rfl yk_X10_of ⟨by decide, by decide⟩ (lm_0 hX).1 (lm_0 hX).2 rfl (Nat.le_of_ble_eq_true rfl) rfl 100 rfl ?_
    intro x23
    refine g_aload_n 0 rfl rfl 101 rfl dX10_report_100 ?_
    refine g_iload_n 1 rfl rfl 102 rfl dX10_report_101 ?_
    refine g_aload_n 0 rfl rfl 103 rfl dX10_report_102 ?_
    refine w_getR (lm_0 hX) rfl in_X10 1 (by decide) wf_X10_9 1 rfl 106 rfl dX10_report_103 ?_
    refine g_iconst 3 107 rfl dX10_report_106 (by decide) ?_
    refine w_iald (lm_1 hX) 108 rfl dX10_report_107 ?_
    refine p_cVI 0 [.int p0, .int (M22 1 (3 : Int32).toNatClampNeg)] [.int x23, .int p0, .ref (wA Ω 0)] (c_X10_local l hO hX M22 p0 (M22 1 (3 : Int32).toNatClampNeg)) dX10_report_108 uv_X10_124 rfl yk_X10_local ⟨by decide, by decide⟩ (lm_0 hX).1 (lm_0 hX).2 rfl (Nat.le_of_ble_eq_true rfl) rfl 111 rfl ?_
    intro x24
    refine p_cVI 0 [.int p0, .int x23, .int x24] [] (c_X10_shown l hO hX M22 p0 x23 x24) dX10_report_111 uv_X10_188 rfl yk_X10_shown ⟨by decide, by decide⟩ (lm_0 hX).1 (lm_0 hX).2 rfl (Nat.le_of_ble_eq_true rfl) rfl 114 rfl ?_
    intro x25
    refine g_istore_nA [(2, .int x25), (0, .ref (wA Ω 0)), (1, .int p0)] rfl 115 rfl dX10_report_114 (by decide) rfl ?_
    refine g_aload_n 1 rfl rfl 116 rfl dX10_report_115 ?_
    refine g_aload_n 1 rfl rfl 117 rfl dX10_report_116 ?_
    refine g_iload_n 2 rfl rfl 118 rfl dX10_report_117 ?_
    refine g_iconst 2 119 rfl dX10_report_118 (by decide) ?_
    refine p_cVI 0 [.int p0, .int 2] [.ref (wA Ω 0)] (c_X10_of l hO hX M22 p0 2) dX10_report_119 uv_X10_78 rfl yk_X10_of ⟨by decide, by decide⟩ (lm_0 hX).1 (lm_0 hX).2 rfl (Nat.le_of_ble_eq_true rfl) rfl 122 rfl ?_
    intro x26
    refine g_iload_n 0 rfl rfl 123 rfl dX10_report_122 ?_
    refine s_ldcw hK 24 (by decide) rfl 126 rfl dX10_report_123 ?_
    refine g_cVV 0 [.int x26, .int x25, .ref (K 24)] [] (c_X10_lists l hO hX hK (by decide) M22 x26 x25) dX10_report_126 uv_X10_296 rfl yk_X10_lists ⟨by decide, by decide⟩ (lm_0 hX).1 (lm_0 hX).2 rfl (Nat.le_of_ble_eq_true rfl) rfl 129 rfl ?_
    intro u27 M28
    refine g_aload_n 1 rfl rfl 130 rfl dX10_report_129 ?_
    refine g_aload_n 1 rfl rfl 131 rfl dX10_report_130 ?_
    refine g_iload_n 2 rfl rfl 132 rfl dX10_report_131 ?_
    refine g_iconst 2 133 rfl dX10_report_132 (by decide) ?_
    refine p_cVI 0 [.int p0, .int 2] [.ref (wA Ω 0)] (c_X10_of l hO hX M28 p0 2) dX10_report_133 uv_X10_78 rfl yk_X10_of ⟨by decide, by decide⟩ (lm_0 hX).1 (lm_0 hX).2 rfl (Nat.le_of_ble_eq_true rfl) rfl 136 rfl ?_
    intro x29
    refine g_iconst 1 137 rfl dX10_report_136 (by decide) ?_
    refine g_aload_n 1 rfl rfl 138 rfl dX10_report_137 ?_
    refine g_iload_n 2 rfl rfl 139 rfl dX10_report_138 ?_
    refine g_iconst 2 140 rfl dX10_report_139 (by decide) ?_
    refine p_cVI 0 [.int p0, .int 2] [.int 1, .int x29, .ref (wA Ω 0)] (c_X10_of l hO hX M28 p0 2) dX10_report_140 uv_X10_78 rfl yk_X10_of ⟨by decide, by decide⟩ (lm_0 hX).1 (lm_0 hX).2 rfl (Nat.le_of_ble_eq_true rfl) rfl 143 rfl ?_
    intro x30
    refine g_ishl 144 rfl dX10_report_143 ?_
    refine g_iconst 1 145 rfl dX10_report_144 (by decide) ?_
    refine g_isub 146 rfl dX10_report_145 ?_
    refine g_iload_n 0 rfl rfl 147 rfl dX10_report_146 ?_
    refine g_iconst (-1) 148 rfl dX10_report_147 (by decide) ?_
    refine g_ixor 149 rfl dX10_report_148 ?_
    refine g_iand 150 rfl dX10_report_149 ?_
    refine s_ldcw hK 28 (by decide) rfl 153 rfl dX10_report_150 ?_
    refine g_cVV 0 [.int x29, .int (((1 <<< (x30 &&& 31)) - 1) &&& (x25 ^^^ (-1))), .ref (K 28)] [] (c_X10_lists l hO hX hK (by decide) M28 x29 (((1 <<< (x30 &&& 31)) - 1) &&& (x25 ^^^ (-1)))) dX10_report_153 uv_X10_296 rfl yk_X10_lists ⟨by decide, by decide⟩ (lm_0 hX).1 (lm_0 hX).2 rfl (Nat.le_of_ble_eq_true rfl) rfl 156 rfl ?_
    intro u31 M32
    refine g_aload_n 1 rfl rfl 157 rfl dX10_report_156 ?_
    refine w_get (lm_0 hX) rfl in_X10 13 (by decide) wf_X10_270 rfl 160 rfl dX10_report_157 ?_
    exact g_iret rfl dX10_report_160
