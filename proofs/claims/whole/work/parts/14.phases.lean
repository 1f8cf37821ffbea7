def fX3_isPeaceful_L1 (j0 : Nat) (p2 : Int32) (p3 : Int32) (M : Mem) (k2 : Int32 → Option Int32) (a1 : Int32) : Option Int32 := if p2 ≤ a1 then (some 1) else (grd (inb a1 6) (jn (fun (a3 : Unit) => bnd (a1 + 1) (fun x5 => k2 x5)) (fun k4 => if M 466 a1.toNatClampNeg = p3 then (clp (fX2_areInConflict M j0 p2 a1) (fun x6 => if x6 = 0 then (k4 ()) else (some 0))) else (k4 ()))))
def fX3_isPeaceful (M : Mem) (j0 : Nat) (p2 : Int32) (p3 : Int32) : Option Int32 := lp (fX3_isPeaceful_L1 j0 p2 p3 M) FU 0
set_option maxRecDepth 100000 in
set_option maxHeartbeats 4000000 in
theorem c_X3_isPeaceful {Ω : Wd} (l : Launch) (hO : OkW Ω) (hX : LX Ω) {j0 : Nat} (hj0 : isJ j0) (M : Mem) (p2 : Int32) (p3 : Int32) : ∀ r, fX3_isPeaceful M j0 p2 p3 = some r → Ct l yX3_isPeaceful (.code yX3_isPeaceful cX3_isPeaceful 5 (some .boolean)) 2 44 Ω [.ref (wA Ω j0), .ref (wA Ω 466), .int p2, .int p3] M ((cpI M) r) := by
  refine ofG [(0, .ref (wA Ω j0)), (1, .ref (wA Ω 466)), (2, .int p2), (3, .int p3)] hO (by decide) rfl (Nat.le_of_ble_eq_true rfl) rfl ?_
  intro p e s m args below meth c
  unfold fX3_isPeaceful
  refine g_iconst 0 1 rfl dX3_isPeaceful_0 (by decide) ?_
  refine g_istoreA [(4, .int 0), (0, .ref (wA Ω j0)), (1, .ref (wA Ω 466)), (2, .int p2), (3, .int p3)] 3 rfl dX3_isPeaceful_1 (by decide) rfl ?_
  refine g_sub [(0, .ref (wA Ω j0)), (1, .ref (wA Ω 466)), (2, .int p2), (3, .int p3), (4, .int 0)] [1, 2, 3, 4, 0] rfl ?_
  refine g_loop 3 (fun a1 => [(0, .ref (wA Ω j0)), (1, .ref (wA Ω 466)), (2, .int p2), (3, .int p3), (4, .int a1)]) (fun _ => []) (fun a1 => M) ?_ FU 0
  intro k2 hk2 a1
  unfold fX3_isPeaceful_L1
  refine g_iload 4 rfl 5 rfl dX3_isPeaceful_3 ?_
  refine g_iload_n 2 rfl rfl 6 rfl dX3_isPeaceful_5 ?_
  refine g_icmp_ge 35 (by decide) 9 rfl dX3_isPeaceful_6 ?_ ?_
  · refine g_iconst 1 36 rfl dX3_isPeaceful_35 (by decide) ?_
    exact p_zret rfl rfl dX3_isPeaceful_36
  · refine g_aload_n 1 rfl rfl 10 rfl dX3_isPeaceful_9 ?_
    refine g_iload 4 rfl 12 rfl dX3_isPeaceful_10 ?_
    refine w_iald (lx_P1 hX) 13 rfl dX3_isPeaceful_12 ?_
    refine g_iload_n 3 rfl rfl 14 rfl dX3_isPeaceful_13 ?_
    refine g_join 29 (fun a3 => [(0, .ref (wA Ω j0)), (1, .ref (wA Ω 466)), (2, .int p2), (3, .int p3), (4, .int a1)]) (fun a3 => []) (fun a3 => M) ?_ ?_
    · intro a3
      refine g_iinc 4 rfl 1 (by decide) (fun x5 => [(4, .int x5), (0, .ref (wA Ω j0)), (1, .ref (wA Ω 466)), (2, .int p2), (3, .int p3)]) 32 rfl dX3_isPeaceful_29 (by decide) (fun _ => rfl) ?_
      intro x5
      refine g_goto 3 (by decide) dX3_isPeaceful_32 ?_
      refine g_sub [(0, .ref (wA Ω j0)), (1, .ref (wA Ω 466)), (2, .int p2), (3, .int p3), (4, .int x5)] [1, 2, 3, 4, 0] rfl ?_
      exact hk2 x5
    · intro k4 hk4
      refine g_icmp_ne 29 (by decide) 17 rfl dX3_isPeaceful_14 ?_ ?_
      · refine g_aload_n 0 rfl rfl 18 rfl dX3_isPeaceful_17 ?_
        refine g_iload_n 2 rfl rfl 19 rfl dX3_isPeaceful_18 ?_
        refine g_iload 4 rfl 21 rfl dX3_isPeaceful_19 ?_
        refine p_cVI j0 [.int p2, .int a1] [] (c_X2_areInConflict l hO hX hj0 M p2 a1) dX3_isPeaceful_21 uv_X3_47 rfl yk_X2_areInConflict ⟨by decide, by decide⟩ (lx_J hX hj0).1 (lx_J hX hj0).2 rfl (Nat.le_of_ble_eq_true rfl) rfl 24 rfl ?_
        intro x6
        refine g_if_eq 29 (by decide) 27 rfl dX3_isPeaceful_24 ?_ ?_
        · exact hk4 ()
        · refine g_iconst 0 28 rfl dX3_isPeaceful_27 (by decide) ?_
          exact p_zret rfl rfl dX3_isPeaceful_28
      · exact hk4 ()
def fX3_spread_L1 (p1 : Int32) (k6 : (Int32 × Mem) → Option (Unit × Mem)) (k9 : (Int32 × Int32 × Mem) → Option (Unit × Mem)) (a8 : Int32 × Int32 × Mem) : Option (Unit × Mem) := if a8.2.2 465 0 ≤ a8.2.1 then (k6 (a8.1, a8.2.2)) else (if a8.1 ≤ 0 then (k6 (a8.1, a8.2.2)) else (grd (inb a8.2.1 6) (jn (fun (a10 : Int32 × Mem) => bnd (a8.2.1 + 1) (fun x12 => k9 (a10.1, x12, a10.2))) (fun k11 => if p1 ≤ a8.2.2 468 a8.2.1.toNatClampNeg then (k11 (a8.1, a8.2.2)) else (grd (inb a8.2.1 6) (grd (inb a8.2.1 6) (bnd (mset a8.2.2 468 a8.2.1.toNatClampNeg ((a8.2.2 468 a8.2.1.toNatClampNeg) + 1)) (fun M13 => bnd (a8.1 + (-1)) (fun x14 => k11 (x14, M13))))))))))
def fX3_spread_L2 (p0 : Int32) (p1 : Int32) (k2 : Mem → Option (Unit × Mem)) (k4 : (Int32 × Int32 × Mem) → Option (Unit × Mem)) (a3 : Int32 × Int32 × Mem) : Option (Unit × Mem) := if p0 ≤ a3.2.1 then (k2 a3.2.2) else (if a3.1 ≤ 0 then (k2 a3.2.2) else (jn (fun (a5 : Int32 × Mem) => bnd (a3.2.1 + 1) (fun x7 => k4 (a5.1, x7, a5.2))) (fun k6 => lp (fX3_spread_L1 p1 k6) FU (a3.1, 0, a3.2.2))))
def fX3_spread (M : Mem) (p0 : Int32) (p1 : Int32) : Option (Unit × Mem) := jn (fun (a1 : Mem) => some ((), a1)) (fun k2 => lp (fX3_spread_L2 p0 p1 k2) FU (p0, 0, M))
set_option maxRecDepth 100000 in
set_option maxHeartbeats 4000000 in
theorem c_X3_spread {Ω : Wd} (l : Launch) (hO : OkW Ω) (hX : LX Ω)  (M : Mem) (p0 : Int32) (p1 : Int32) : ∀ r, fX3_spread M p0 p1 = some r → Ct l yX3_spread (.code yX3_spread cX3_spread 6 none) 0 0 Ω [.ref (wA Ω 465), .int p0, .int p1] M (cvV r) := by
  refine ofG [(0, .ref (wA Ω 465)), (1, .int p0), (2, .int p1)] hO (by decide) rfl (Nat.le_of_ble_eq_true rfl) rfl ?_
  intro p e s m args below meth c
  unfold fX3_spread
  refine g_iload_n 1 rfl rfl 1 rfl dX3_spread_0 ?_
  refine g_istore_nA [(3, .int p0), (0, .ref (wA Ω 465)), (1, .int p0), (2, .int p1)] rfl 2 rfl dX3_spread_1 (by decide) rfl ?_
  refine g_iconst 0 3 rfl dX3_spread_2 (by decide) ?_
  refine g_istoreA [(4, .int 0), (3, .int p0), (0, .ref (wA Ω 465)), (1, .int p0), (2, .int p1)] 5 rfl dX3_spread_3 (by decide) rfl ?_
  refine g_join 68 (fun a1 => []) (fun a1 => []) (fun a1 => a1) ?_ ?_
  · intro a1
    exact g_vret rfl dX3_spread_68
  · intro k2 hk2
    refine g_sub [(0, .ref (wA Ω 465)), (1, .int p0), (2, .int p1), (3, .int p0), (4, .int 0)] [2, 3, 4, 1, 0] rfl ?_
    refine g_loop 5 (fun a3 => [(0, .ref (wA Ω 465)), (1, .int p0), (2, .int p1), (3, .int a3.1), (4, .int a3.2.1)]) (fun _ => []) (fun a3 => a3.2.2) ?_ FU (p0, 0, M)
    intro k4 hk4 a3
    unfold fX3_spread_L2
    refine g_iload 4 rfl 7 rfl dX3_spread_5 ?_
    refine g_iload_n 1 rfl rfl 8 rfl dX3_spread_7 ?_
    refine g_icmp_ge 68 (by decide) 11 rfl dX3_spread_8 ?_ ?_
    · refine g_sub [] [] rfl ?_
      exact hk2 a3.2.2
    · refine g_iload_n 3 rfl rfl 12 rfl dX3_spread_11 ?_
      refine g_if_le 68 (by decide) 15 rfl dX3_spread_12 ?_ ?_
      · refine g_sub [] [] rfl ?_
        exact hk2 a3.2.2
      · refine g_iconst 0 16 rfl dX3_spread_15 (by decide) ?_
        refine g_istoreA [(5, .int 0), (0, .ref (wA Ω 465)), (1, .int p0), (2, .int p1), (3, .int a3.1), (4, .int a3.2.1)] 18 rfl dX3_spread_16 (by decide) rfl ?_
        refine g_join 62 (fun a5 => [(0, .ref (wA Ω 465)), (1, .int p0), (2, .int p1), (3, .int a5.1), (4, .int a3.2.1)]) (fun a5 => []) (fun a5 => a5.2) ?_ ?_
        · intro a5
          refine g_iinc 4 rfl 1 (by decide) (fun x7 => [(4, .int x7), (0, .ref (wA Ω 465)), (1, .int p0), (2, .int p1), (3, .int a5.1)]) 65 rfl dX3_spread_62 (by decide) (fun _ => rfl) ?_
          intro x7
          refine g_goto 5 (by decide) dX3_spread_65 ?_
          refine g_sub [(0, .ref (wA Ω 465)), (1, .int p0), (2, .int p1), (3, .int a5.1), (4, .int x7)] [1, 2, 3, 4, 0] rfl ?_
          exact hk4 (a5.1, x7, a5.2)
        · intro k6 hk6
          refine g_sub [(0, .ref (wA Ω 465)), (1, .int p0), (2, .int p1), (3, .int a3.1), (4, .int a3.2.1), (5, .int 0)] [1, 2, 3, 4, 5, 0] rfl ?_
          refine g_loop 18 (fun a8 => [(0, .ref (wA Ω 465)), (1, .int p0), (2, .int p1), (3, .int a8.1), (4, .int a3.2.1), (5, .int a8.2.1)]) (fun _ => []) (fun a8 => a8.2.2) ?_ FU (a3.1, 0, a3.2.2)
          intro k9 hk9 a8
          unfold fX3_spread_L1
          refine g_iload 5 rfl 20 rfl dX3_spread_18 ?_
          refine g_aload_n 0 rfl rfl 21 rfl dX3_spread_20 ?_
          refine w_get (lx_P hX) rfl in_X3 0 (by decide) wf_X3_34 rfl 24 rfl dX3_spread_21 ?_
          refine g_icmp_ge 62 (by decide) 27 rfl dX3_spread_24 ?_ ?_
          · refine g_sub [(0, .ref (wA Ω 465)), (1, .int p0), (2, .int p1), (3, .int a8.1), (4, .int a3.2.1)] [0, 1, 2, 3, 4] rfl ?_
            exact hk6 (a8.1, a8.2.2)
          · refine g_iload_n 3 rfl rfl 28 rfl dX3_spread_27 ?_
            refine g_if_le 62 (by decide) 31 rfl dX3_spread_28 ?_ ?_
            · refine g_sub [(0, .ref (wA Ω 465)), (1, .int p0), (2, .int p1), (3, .int a8.1), (4, .int a3.2.1)] [0, 1, 2, 3, 4] rfl ?_
              exact hk6 (a8.1, a8.2.2)
            · refine g_aload_n 0 rfl rfl 32 rfl dX3_spread_31 ?_
              refine w_getR (lx_P hX) rfl in_X3 3 (by decide) wf_X3_18 468 rfl 35 rfl dX3_spread_32 ?_
              refine g_iload 5 rfl 37 rfl dX3_spread_35 ?_
              refine w_iald (lx_P3 hX) 38 rfl dX3_spread_37 ?_
              refine g_iload_n 2 rfl rfl 39 rfl dX3_spread_38 ?_
              refine g_join 56 (fun a10 => [(0, .ref (wA Ω 465)), (1, .int p0), (2, .int p1), (3, .int a10.1), (4, .int a3.2.1), (5, .int a8.2.1)]) (fun a10 => []) (fun a10 => a10.2) ?_ ?_
              · intro a10
                refine g_iinc 5 rfl 1 (by decide) (fun x12 => [(5, .int x12), (0, .ref (wA Ω 465)), (1, .int p0), (2, .int p1), (3, .int a10.1), (4, .int a3.2.1)]) 59 rfl dX3_spread_56 (by decide) (fun _ => rfl) ?_
                intro x12
                refine g_goto 18 (by decide) dX3_spread_59 ?_
                refine g_sub [(0, .ref (wA Ω 465)), (1, .int p0), (2, .int p1), (3, .int a10.1), (4, .int a3.2.1), (5, .int x12)] [1, 2, 3, 4, 5, 0] rfl ?_
                exact hk9 (a10.1, x12, a10.2)
              · intro k11 hk11
                refine g_icmp_ge 56 (by decide) 42 rfl dX3_spread_39 ?_ ?_
                · exact hk11 (a8.1, a8.2.2)
                · refine g_aload_n 0 rfl rfl 43 rfl dX3_spread_42 ?_
                  refine w_getR (lx_P hX) rfl in_X3 3 (by decide) wf_X3_18 468 rfl 46 rfl dX3_spread_43 ?_
                  refine g_iload 5 rfl 48 rfl dX3_spread_46 ?_
                  refine g_dup2 49 rfl dX3_spread_48 rfl rfl ?_
                  refine w_iald (lx_P3 hX) 50 rfl dX3_spread_49 ?_
                  refine g_iconst 1 51 rfl dX3_spread_50 (by decide) ?_
                  refine g_iadd 52 rfl dX3_spread_51 ?_
                  refine w_iast (lx_P3 hX) 53 rfl dX3_spread_52 ?_
                  intro M13
                  refine g_iinc 3 rfl (-1) (by decide) (fun x14 => [(3, .int x14), (0, .ref (wA Ω 465)), (1, .int p0), (2, .int p1), (4, .int a3.2.1), (5, .int a8.2.1)]) 56 rfl dX3_spread_53 (by decide) (fun _ => rfl) ?_
                  intro x14
                  refine g_sub [(0, .ref (wA Ω 465)), (1, .int p0), (2, .int p1), (3, .int x14), (4, .int a3.2.1), (5, .int a8.2.1)] [1, 2, 3, 0, 4, 5] rfl ?_
                  exact hk11 (x14, M13)
def fX3_setStarts_L1 (k2 : (Int32 × Int32 × Mem) → Option (Unit × Mem)) (a1 : Int32 × Int32 × Mem) : Option (Unit × Mem) := if a1.2.2 465 0 ≤ a1.2.1 then (some ((), a1.2.2)) else (grd (inb a1.2.1 6) (bnd (mset a1.2.2 467 a1.2.1.toNatClampNeg a1.1) (fun M3 => grd (inb a1.2.1 6) (grd (inb a1.2.1 6) (bnd (a1.1 + ((M3 468 a1.2.1.toNatClampNeg) + (M3 469 a1.2.1.toNatClampNeg))) (fun x4 => bnd (a1.2.1 + 1) (fun x5 => k2 (x4, x5, M3))))))))
def fX3_setStarts (M : Mem)  : Option (Unit × Mem) := lp (fX3_setStarts_L1) FU (0, 0, M)
set_option maxRecDepth 100000 in
set_option maxHeartbeats 4000000 in
theorem c_X3_setStarts {Ω : Wd} (l : Launch) (hO : OkW Ω) (hX : LX Ω)  (M : Mem)  : ∀ r, fX3_setStarts M  = some r → Ct l yX3_setStarts (.code yX3_setStarts cX3_setStarts 3 none) 0 0 Ω [.ref (wA Ω 465)] M (cvV r) := by
  refine ofG [(0, .ref (wA Ω 465))] hO (by decide) rfl (Nat.le_of_ble_eq_true rfl) rfl ?_
  intro p e s m args below meth c
  unfold fX3_setStarts
  refine g_iconst 0 1 rfl dX3_setStarts_0 (by decide) ?_
  refine g_istore_nA [(1, .int 0), (0, .ref (wA Ω 465))] rfl 2 rfl dX3_setStarts_1 (by decide) rfl ?_
  refine g_iconst 0 3 rfl dX3_setStarts_2 (by decide) ?_
  refine g_istore_nA [(2, .int 0), (1, .int 0), (0, .ref (wA Ω 465))] rfl 4 rfl dX3_setStarts_3 (by decide) rfl ?_
  refine g_sub [(0, .ref (wA Ω 465)), (1, .int 0), (2, .int 0)] [2, 1, 0] rfl ?_
  refine g_loop 4 (fun a1 => [(0, .ref (wA Ω 465)), (1, .int a1.1), (2, .int a1.2.1)]) (fun _ => []) (fun a1 => a1.2.2) ?_ FU (0, 0, M)
  intro k2 hk2 a1
  unfold fX3_setStarts_L1
  refine g_iload_n 2 rfl rfl 5 rfl dX3_setStarts_4 ?_
  refine g_aload_n 0 rfl rfl 6 rfl dX3_setStarts_5 ?_
  refine w_get (lx_P hX) rfl in_X3 0 (by decide) wf_X3_34 rfl 9 rfl dX3_setStarts_6 ?_
  refine g_icmp_ge 41 (by decide) 12 rfl dX3_setStarts_9 ?_ ?_
  · exact g_vret rfl dX3_setStarts_41
  · refine g_aload_n 0 rfl rfl 13 rfl dX3_setStarts_12 ?_
    refine w_getR (lx_P hX) rfl in_X3 2 (by decide) wf_X3_15 467 rfl 16 rfl dX3_setStarts_13 ?_
    refine g_iload_n 2 rfl rfl 17 rfl dX3_setStarts_16 ?_
    refine g_iload_n 1 rfl rfl 18 rfl dX3_setStarts_17 ?_
    refine w_iast (lx_P2 hX) 19 rfl dX3_setStarts_18 ?_
    intro M3
    refine g_iload_n 1 rfl rfl 20 rfl dX3_setStarts_19 ?_
    refine g_aload_n 0 rfl rfl 21 rfl dX3_setStarts_20 ?_
    refine w_getR (lx_P hX) rfl in_X3 3 (by decide) wf_X3_18 468 rfl 24 rfl dX3_setStarts_21 ?_
    refine g_iload_n 2 rfl rfl 25 rfl dX3_setStarts_24 ?_
    refine w_iald (lx_P3 hX) 26 rfl dX3_setStarts_25 ?_
    refine g_aload_n 0 rfl rfl 27 rfl dX3_setStarts_26 ?_
    refine w_getR (lx_P hX) rfl in_X3 4 (by decide) wf_X3_21 469 rfl 30 rfl dX3_setStarts_27 ?_
    refine g_iload_n 2 rfl rfl 31 rfl dX3_setStarts_30 ?_
    refine w_iald (lx_P4 hX) 32 rfl dX3_setStarts_31 ?_
    refine g_iadd 33 rfl dX3_setStarts_32 ?_
    refine g_iadd 34 rfl dX3_setStarts_33 ?_
    refine g_istore_n (fun x4 => [(1, .int x4), (0, .ref (wA Ω 465)), (2, .int a1.2.1)]) rfl 35 rfl dX3_setStarts_34 (by decide) (fun _ => rfl) ?_
    intro x4
    refine g_iinc 2 rfl 1 (by decide) (fun x5 => [(2, .int x5), (1, .int x4), (0, .ref (wA Ω 465))]) 38 rfl dX3_setStarts_35 (by decide) (fun _ => rfl) ?_
    intro x5
    refine g_goto 4 (by decide) dX3_setStarts_38 ?_
    refine g_sub [(0, .ref (wA Ω 465)), (1, .int x4), (2, .int x5)] [2, 1, 0] rfl ?_
    exact hk2 (x4, x5, M3)
def fX3_giveGreens_L1 (j0 : Nat) (p1 : Int32) (k2 : (Int32 × Mem) → Option (Unit × Mem)) (a1 : Int32 × Mem) : Option (Unit × Mem) := if a1.2 j0 2 ≤ a1.1 then (some ((), a1.2)) else (grd (inb a1.1 6) (grd (inb (a1.2 466 a1.1.toNatClampNeg) 6) (grd (inb a1.1 6) (grd (inb (a1.2 466 a1.1.toNatClampNeg) 6) (cl (fX2_setGreen a1.2 j0 p1 a1.1 (a1.2 467 (a1.2 466 a1.1.toNatClampNeg).toNatClampNeg) (a1.2 468 (a1.2 466 a1.1.toNatClampNeg).toNatClampNeg)) (fun u3 M4 => bnd (a1.1 + 1) (fun x5 => k2 (x5, M4))))))))
def fX3_giveGreens (M : Mem) (j0 : Nat) (p1 : Int32) : Option (Unit × Mem) := lp (fX3_giveGreens_L1 j0 p1) FU (0, M)
set_option maxRecDepth 100000 in
set_option maxHeartbeats 4000000 in
theorem c_X3_giveGreens {Ω : Wd} (l : Launch) (hO : OkW Ω) (hX : LX Ω) {j0 : Nat} (hj0 : isJ j0) (M : Mem) (p1 : Int32) : ∀ r, fX3_giveGreens M j0 p1 = some r → Ct l yX3_giveGreens (.code yX3_giveGreens cX3_giveGreens 4 none) 1 24 Ω [.ref (wA Ω 465), .ref (wA Ω j0), .int p1] M (cvV r) := by
  refine ofG [(0, .ref (wA Ω 465)), (1, .ref (wA Ω j0)), (2, .int p1)] hO (by decide) rfl (Nat.le_of_ble_eq_true rfl) rfl ?_
  intro p e s m args below meth c
  unfold fX3_giveGreens
  refine g_iconst 0 1 rfl dX3_giveGreens_0 (by decide) ?_
  refine g_istore_nA [(3, .int 0), (0, .ref (wA Ω 465)), (1, .ref (wA Ω j0)), (2, .int p1)] rfl 2 rfl dX3_giveGreens_1 (by decide) rfl ?_
  refine g_sub [(0, .ref (wA Ω 465)), (1, .ref (wA Ω j0)), (2, .int p1), (3, .int 0)] [1, 2, 3, 0] rfl ?_
  refine g_loop 2 (fun a1 => [(0, .ref (wA Ω 465)), (1, .ref (wA Ω j0)), (2, .int p1), (3, .int a1.1)]) (fun _ => []) (fun a1 => a1.2) ?_ FU (0, M)
  intro k2 hk2 a1
  unfold fX3_giveGreens_L1
  refine g_iload_n 3 rfl rfl 3 rfl dX3_giveGreens_2 ?_
  refine g_aload_n 1 rfl rfl 4 rfl dX3_giveGreens_3 ?_
  refine w_get (lx_J hX hj0) rfl in_X2 2 (by decide) wf_X3_24 rfl 7 rfl dX3_giveGreens_4 ?_
  refine g_icmp_ge 44 (by decide) 10 rfl dX3_giveGreens_7 ?_ ?_
  · exact g_vret rfl dX3_giveGreens_44
  · refine g_aload_n 1 rfl rfl 11 rfl dX3_giveGreens_10 ?_
    refine g_iload_n 2 rfl rfl 12 rfl dX3_giveGreens_11 ?_
    refine g_iload_n 3 rfl rfl 13 rfl dX3_giveGreens_12 ?_
    refine g_aload_n 0 rfl rfl 14 rfl dX3_giveGreens_13 ?_
    refine w_getR (lx_P hX) rfl in_X3 2 (by decide) wf_X3_15 467 rfl 17 rfl dX3_giveGreens_14 ?_
    refine g_aload_n 0 rfl rfl 18 rfl dX3_giveGreens_17 ?_
    refine w_getR (lx_P hX) rfl in_X3 1 (by decide) wf_X3_9 466 rfl 21 rfl dX3_giveGreens_18 ?_
    refine g_iload_n 3 rfl rfl 22 rfl dX3_giveGreens_21 ?_
    refine w_iald (lx_P1 hX) 23 rfl dX3_giveGreens_22 ?_
    refine w_iald (lx_P2 hX) 24 rfl dX3_giveGreens_23 ?_
    refine g_aload_n 0 rfl rfl 25 rfl dX3_giveGreens_24 ?_
    refine w_getR (lx_P hX) rfl in_X3 3 (by decide) wf_X3_18 468 rfl 28 rfl dX3_giveGreens_25 ?_
    refine g_aload_n 0 rfl rfl 29 rfl dX3_giveGreens_28 ?_
    refine w_getR (lx_P hX) rfl in_X3 1 (by decide) wf_X3_9 466 rfl 32 rfl dX3_giveGreens_29 ?_
    refine g_iload_n 3 rfl rfl 33 rfl dX3_giveGreens_32 ?_
    refine w_iald (lx_P1 hX) 34 rfl dX3_giveGreens_33 ?_
    refine w_iald (lx_P3 hX) 35 rfl dX3_giveGreens_34 ?_
    refine g_cVV j0 [.int p1, .int a1.1, .int (a1.2 467 (a1.2 466 a1.1.toNatClampNeg).toNatClampNeg), .int (a1.2 468 (a1.2 466 a1.1.toNatClampNeg).toNatClampNeg)] [] (c_X2_setGreen l hO hX hj0 a1.2 p1 a1.1 (a1.2 467 (a1.2 466 a1.1.toNatClampNeg).toNatClampNeg) (a1.2 468 (a1.2 466 a1.1.toNatClampNeg).toNatClampNeg)) dX3_giveGreens_35 uv_X3_89 rfl yk_X2_setGreen ⟨by decide, by decide⟩ (lx_J hX hj0).1 (lx_J hX hj0).2 rfl (Nat.le_of_ble_eq_true rfl) rfl 38 rfl ?_
    intro u3 M4
    refine g_iinc 3 rfl 1 (by decide) (fun x5 => [(3, .int x5), (0, .ref (wA Ω 465)), (1, .ref (wA Ω j0)), (2, .int p1)]) 41 rfl dX3_giveGreens_38 (by decide) (fun _ => rfl) ?_
    intro x5
    refine g_goto 2 (by decide) dX3_giveGreens_41 ?_
    refine g_sub [(0, .ref (wA Ω 465)), (1, .ref (wA Ω j0)), (2, .int p1), (3, .int x5)] [1, 2, 3, 0] rfl ?_
    exact hk2 (x5, M4)
def fX7_arePossible_L1 (t0 : Nat) (p1 : Int32) (M : Mem) (k2 : Unit → Option Int32) (k6 : Unit → Option Int32) (k8 : Int32 → Option Int32) (a7 : Int32) : Option Int32 := if M t0 3 ≤ a7 then (k2 ()) else (grd (inb a7 4) (clp (fX2_hasRoadGroup M (t0 + 2 + 10 * a7.toNatClampNeg) p1) (fun x10 => if x10 = 0 then (k6 ()) else (grd (inb p1 2) (clp (fX2_hasGreen M (t0 + 2 + 10 * a7.toNatClampNeg) (M (t0 + 2 + 10 * a7.toNatClampNeg) 3) (M ((t0 + 2 + 10 * a7.toNatClampNeg) + 1) p1.toNatClampNeg)) (fun x11 => if x11 = 0 then (k6 ()) else (bnd (a7 + 1) (fun x12 => k8 x12))))))))
def fX7_arePossible (M : Mem) (t0 : Nat) (p1 : Int32) : Option Int32 := jn (fun (a1 : Unit) => jn (fun (a3 : Int32) => grd (isb a3) (some a3)) (fun k4 => if M t0 3 ≤ 0 then (k4 0) else (k4 1))) (fun k2 => jn (fun (a5 : Unit) => some 0) (fun k6 => lp (fX7_arePossible_L1 t0 p1 M k2 k6) FU 0))
set_option maxRecDepth 100000 in
set_option maxHeartbeats 4000000 in
theorem c_X7_arePossible {Ω : Wd} (l : Launch) (hO : OkW Ω) (hX : LX Ω) {t0 : Nat} (ht0 : isS t0) (M : Mem) (p1 : Int32) : ∀ r, fX7_arePossible M t0 p1 = some r → Ct l yX7_arePossible (.code yX7_arePossible cX7_arePossible 5 (some .boolean)) 2 44 Ω [.ref (wA Ω 470), .ref (wA Ω t0), .int p1] M ((cpI M) r) := by
  refine ofG [(0, .ref (wA Ω 470)), (1, .ref (wA Ω t0)), (2, .int p1)] hO (by decide) rfl (Nat.le_of_ble_eq_true rfl) rfl ?_
  intro p e s m args below meth c
  unfold fX7_arePossible
  refine g_iconst 0 1 rfl dX7_arePossible_0 (by decide) ?_
  refine g_istore_nA [(3, .int 0), (0, .ref (wA Ω 470)), (1, .ref (wA Ω t0)), (2, .int p1)] rfl 2 rfl dX7_arePossible_1 (by decide) rfl ?_
  refine g_join 55 (fun a1 => [(1, .ref (wA Ω t0))]) (fun a1 => []) (fun a1 => M) ?_ ?_
  · intro a1
    refine g_aload_n 0 rfl rfl 56 rfl dX7_arePossible_55 ?_
    refine w_get (lx_S hX ht0) rfl in_X6 3 (by decide) wf_X7_15 rfl 59 rfl dX7_arePossible_56 ?_
    refine g_join 67 (fun a3 => []) (fun a3 => [.int a3]) (fun a3 => M) ?_ ?_
    · intro a3
      exact p_bret rfl dX7_arePossible_67
    · intro k4 hk4
      refine g_if_le 66 (by decide) 62 rfl dX7_arePossible_59 ?_ ?_
      · refine g_iconst 0 67 rfl dX7_arePossible_66 (by decide) ?_
        refine g_sub [] [] rfl ?_
        exact hk4 0
      · refine g_iconst 1 63 rfl dX7_arePossible_62 (by decide) ?_
        refine g_goto 67 (by decide) dX7_arePossible_63 ?_
        refine g_sub [] [] rfl ?_
        exact hk4 1
  · intro k2 hk2
    refine g_join 47 (fun a5 => []) (fun a5 => []) (fun a5 => M) ?_ ?_
    · intro a5
      refine g_iconst 0 48 rfl dX7_arePossible_47 (by decide) ?_
      exact p_zret rfl rfl dX7_arePossible_48
    · intro k6 hk6
      refine g_sub [(1, .ref (wA Ω t0)), (2, .int p1), (3, .int 0)] [2, 3, 0] rfl ?_
      refine g_loop 2 (fun a7 => [(1, .ref (wA Ω t0)), (2, .int p1), (3, .int a7)]) (fun _ => []) (fun a7 => M) ?_ FU 0
      intro k8 hk8 a7
      unfold fX7_arePossible_L1
      refine g_iload_n 2 rfl rfl 3 rfl dX7_arePossible_2 ?_
      refine g_aload_n 0 rfl rfl 4 rfl dX7_arePossible_3 ?_
      refine w_get (lx_S hX ht0) rfl in_X6 3 (by decide) wf_X7_15 rfl 7 rfl dX7_arePossible_4 ?_
      refine g_icmp_ge 55 (by decide) 10 rfl dX7_arePossible_7 ?_ ?_
      · refine g_sub [(1, .ref (wA Ω t0))] [0] rfl ?_
        exact hk2 ()
      · refine g_aload_n 0 rfl rfl 11 rfl dX7_arePossible_10 ?_
        refine w_getR (lx_S hX ht0) rfl in_X6 4 (by decide) wf_X7_21 (t0 + 1) rfl 14 rfl dX7_arePossible_11 ?_
        refine g_iload_n 2 rfl rfl 15 rfl dX7_arePossible_14 ?_
        refine w_aald (lx_S1 hX ht0) 16 rfl dX7_arePossible_15 ?_
        intro hn9
        refine g_astoreA [(4, .ref (wA Ω (t0 + 2 + 10 * a7.toNatClampNeg))), (1, .ref (wA Ω t0)), (2, .int p1), (3, .int a7)] 18 rfl dX7_arePossible_16 (by decide) rfl ?_
        refine g_aload 0 rfl 20 rfl dX7_arePossible_18 ?_
        refine g_iload_n 2 rfl rfl 21 rfl dX7_arePossible_20 ?_
        refine p_cVI (t0 + 2 + 10 * a7.toNatClampNeg) [.int p1] [] (c_X2_hasRoadGroup l hO hX (isJ_S ht0 hn9) M p1) dX7_arePossible_21 uv_X7_25 rfl yk_X2_hasRoadGroup ⟨by decide, by decide⟩ (lx_J hX (isJ_S ht0 hn9)).1 (lx_J hX (isJ_S ht0 hn9)).2 rfl (Nat.le_of_ble_eq_true rfl) rfl 24 rfl ?_
        intro x10
        refine g_if_eq 47 (by decide) 27 rfl dX7_arePossible_24 ?_ ?_
        · refine g_sub [] [] rfl ?_
          exact hk6 ()
        · refine g_aload 0 rfl 29 rfl dX7_arePossible_27 ?_
          refine g_aload 0 rfl 31 rfl dX7_arePossible_29 ?_
          refine w_get (lx_J hX (isJ_S ht0 hn9)) rfl in_X2 3 (by decide) wf_X7_31 rfl 34 rfl dX7_arePossible_31 ?_
          refine g_aload 0 rfl 36 rfl dX7_arePossible_34 ?_
          refine w_getR (lx_J hX (isJ_S ht0 hn9)) rfl in_X2 9 (by decide) wf_X7_34 ((t0 + 2 + 10 * a7.toNatClampNeg) + 1) rfl 39 rfl dX7_arePossible_36 ?_
          refine g_iload_n 2 rfl rfl 40 rfl dX7_arePossible_39 ?_
          refine w_iald (lx_J1 hX (isJ_S ht0 hn9)) 41 rfl dX7_arePossible_40 ?_
          refine p_cVI (t0 + 2 + 10 * a7.toNatClampNeg) [.int (M (t0 + 2 + 10 * a7.toNatClampNeg) 3), .int (M ((t0 + 2 + 10 * a7.toNatClampNeg) + 1) p1.toNatClampNeg)] [] (c_X2_hasGreen l hO hX (isJ_S ht0 hn9) M (M (t0 + 2 + 10 * a7.toNatClampNeg) 3) (M ((t0 + 2 + 10 * a7.toNatClampNeg) + 1) p1.toNatClampNeg)) dX7_arePossible_41 uv_X7_37 rfl yk_X2_hasGreen ⟨by decide, by decide⟩ (lx_J hX (isJ_S ht0 hn9)).1 (lx_J hX (isJ_S ht0 hn9)).2 rfl (Nat.le_of_ble_eq_true rfl) rfl 44 rfl ?_
          intro x11
          refine g_if_ne 49 (by decide) 47 rfl dX7_arePossible_44 ?_ ?_
          · refine g_sub [] [] rfl ?_
            exact hk6 ()
          · refine g_iinc 3 rfl 1 (by decide) (fun x12 => [(3, .int x12), (4, .ref (wA Ω (t0 + 2 + 10 * a7.toNatClampNeg))), (1, .ref (wA Ω t0)), (2, .int p1)]) 52 rfl dX7_arePossible_49 (by decide) (fun _ => rfl) ?_
            intro x12
            refine g_goto 2 (by decide) dX7_arePossible_52 ?_
            refine g_sub [(1, .ref (wA Ω t0)), (2, .int p1), (3, .int x12)] [2, 3, 0] rfl ?_
            exact hk8 x12
def fX7_numberAt (M : Mem) (t0 : Nat) (p1 : Int32) (p2 : Int32) : Option Int32 := jn (fun (a1 : Int32) => some a1) (fun k2 => if p1 = 0 then (k2 p2) else (k2 (((M t0 3) - 1) - p2)))
set_option maxRecDepth 100000 in
set_option maxHeartbeats 4000000 in
theorem c_X7_numberAt {Ω : Wd} (l : Launch) (hO : OkW Ω) (hX : LX Ω) {t0 : Nat} (ht0 : isS t0) (M : Mem) (p1 : Int32) (p2 : Int32) : ∀ r, fX7_numberAt M t0 p1 p2 = some r → Ct l yX7_numberAt (.code yX7_numberAt cX7_numberAt 4 (some .int)) 0 0 Ω [.ref (wA Ω 470), .ref (wA Ω t0), .int p1, .int p2] M ((cpI M) r) := by
  refine ofG [(0, .ref (wA Ω 470)), (1, .ref (wA Ω t0)), (2, .int p1), (3, .int p2)] hO (by decide) rfl (Nat.le_of_ble_eq_true rfl) rfl ?_
  intro p e s m args below meth c
  unfold fX7_numberAt
  refine g_iload_n 2 rfl rfl 1 rfl dX7_numberAt_0 ?_
  refine g_join 16 (fun a1 => []) (fun a1 => [.int a1]) (fun a1 => M) ?_ ?_
  · intro a1
    exact p_iret rfl dX7_numberAt_16
  · intro k2 hk2
    refine g_if_ne 8 (by decide) 4 rfl dX7_numberAt_1 ?_ ?_
    · refine g_iload_n 3 rfl rfl 5 rfl dX7_numberAt_4 ?_
      refine g_goto 16 (by decide) dX7_numberAt_5 ?_
      refine g_sub [] [] rfl ?_
      exact hk2 p2
    · refine g_aload_n 1 rfl rfl 9 rfl dX7_numberAt_8 ?_
      refine w_get (lx_S hX ht0) rfl in_X6 3 (by decide) wf_X7_15 rfl 12 rfl dX7_numberAt_9 ?_
      refine g_iconst 1 13 rfl dX7_numberAt_12 (by decide) ?_
      refine g_isub 14 rfl dX7_numberAt_13 ?_
      refine g_iload_n 3 rfl rfl 15 rfl dX7_numberAt_14 ?_
      refine g_isub 16 rfl dX7_numberAt_15 ?_
      refine g_sub [] [] rfl ?_
      exact hk2 (((M t0 3) - 1) - p2)
def fX3_isPlaced_L1 (j0 : Nat) (p2 : Int32) (p3 : Int32) (p4 : Int32) (k4 : Mem → Option (Int32 × Mem)) (fr : Mem → Int32 → Int32 → Int32 → Option (Int32 × Mem)) (k6 : (Int32 × Mem) → Option (Int32 × Mem)) (a5 : Int32 × Mem) : Option (Int32 × Mem) := if p3 < a5.1 then (k4 a5.2) else (if p4 ≤ a5.1 then (k4 a5.2) else (clp (fX3_isPeaceful a5.2 j0 p2 a5.1) (fun x7 => jn (fun (a8 : Mem) => bnd (a5.1 + 1) (fun x10 => k6 (x10, a8))) (fun k9 => if x7 = 0 then (k9 a5.2) else (grd (inb p2 6) (bnd (mset a5.2 466 p2.toNatClampNeg a5.1) (fun M11 => clp (fJ9_max_7cf53 M11 p3 (a5.1 + 1)) (fun x12 => cl (fr M11 (p2 + 1) x12 p4) (fun x13 M14 => if x13 = 0 then (k9 M14) else (some (1, M14)))))))))))
def fX3_isPlaced_B (j0 : Nat) (fr : Mem → Int32 → Int32 → Int32 → Option (Int32 × Mem)) (M : Mem) (p2 : Int32) (p3 : Int32) (p4 : Int32) : Option (Int32 × Mem) := jn (fun (a1 : Unit) => some (1, M)) (fun k2 => if M j0 2 ≤ p2 then (k2 ()) else (if p2 < 6 then (jn (fun (a3 : Mem) => some (0, a3)) (fun k4 => lp (fX3_isPlaced_L1 j0 p2 p3 p4 k4 fr) FU (0, M))) else (k2 ())))
def fX3_isPlaced (j0 : Nat) : Nat → Mem → Int32 → Int32 → Int32 → Option (Int32 × Mem)
  | 0 => fun _ _ _ _ => none
  | d + 1 => fX3_isPlaced_B j0 (fX3_isPlaced j0 d)
set_option maxRecDepth 100000 in
set_option maxHeartbeats 4000000 in
theorem c_X3_isPlaced {Ω : Wd} (l : Launch) (hO : OkW Ω) (hX : LX Ω) {j0 : Nat} (hj0 : isJ j0) : ∀ (d : Nat) (M : Mem) (p2 : Int32) (p3 : Int32) (p4 : Int32), ∀ r, fX3_isPlaced j0 d M p2 p3 p4 = some r → Ct l yX3_isPlaced (.code yX3_isPlaced cX3_isPlaced 6 (some .boolean)) (3 + d) (68 + 26 * d) Ω [.ref (wA Ω j0), .ref (wA Ω 466), .int p2, .int p3, .int p4] M (cvI r)
  | 0, _, _, _, _ => fun r hr => by cases hr
  | d + 1, M, p2, p3, p4 => by
    have ih := c_X3_isPlaced l hO hX hj0  d
    show ∀ r, fX3_isPlaced_B j0 (fX3_isPlaced j0 d) M p2 p3 p4 = some r → _
    generalize fX3_isPlaced j0 d = fr at ih ⊢
    refine ofG [(0, .ref (wA Ω j0)), (1, .ref (wA Ω 466)), (2, .int p2), (3, .int p3), (4, .int p4)] hO (by decide) rfl (Nat.le_of_ble_eq_true rfl) rfl ?_
    intro p e s m args below meth c
    unfold fX3_isPlaced_B
    refine g_iload_n 2 rfl rfl 1 rfl dX3_isPlaced_0 ?_
    refine g_aload_n 0 rfl rfl 2 rfl dX3_isPlaced_1 ?_
    refine w_get (lx_J hX hj0) rfl in_X2 2 (by decide) wf_X3_24 rfl 5 rfl dX3_isPlaced_2 ?_
    refine g_join 14 (fun a1 => []) (fun a1 => []) (fun a1 => M) ?_ ?_
    · intro a1
      refine g_iconst 1 15 rfl dX3_isPlaced_14 (by decide) ?_
      exact g_zret rfl rfl dX3_isPlaced_15
    · intro k2 hk2
      refine g_icmp_ge 14 (by decide) 8 rfl dX3_isPlaced_5 ?_ ?_
      · refine g_sub [] [] rfl ?_
        exact hk2 ()
      · refine g_iload_n 2 rfl rfl 9 rfl dX3_isPlaced_8 ?_
        refine g_bipush 6 11 rfl dX3_isPlaced_9 (by decide) ?_
        refine g_icmp_lt 16 (by decide) 14 rfl dX3_isPlaced_11 ?_ ?_
        · refine g_iconst 0 17 rfl dX3_isPlaced_16 (by decide) ?_
          refine g_istoreA [(5, .int 0), (0, .ref (wA Ω j0)), (1, .ref (wA Ω 466)), (2, .int p2), (3, .int p3), (4, .int p4)] 19 rfl dX3_isPlaced_17 (by decide) rfl ?_
          refine g_join 77 (fun a3 => []) (fun a3 => []) (fun a3 => a3) ?_ ?_
          · intro a3
            refine g_iconst 0 78 rfl dX3_isPlaced_77 (by decide) ?_
            exact g_zret rfl rfl dX3_isPlaced_78
          · intro k4 hk4
            refine g_sub [(0, .ref (wA Ω j0)), (1, .ref (wA Ω 466)), (2, .int p2), (3, .int p3), (4, .int p4), (5, .int 0)] [1, 2, 3, 4, 5, 0] rfl ?_
            refine g_loop 19 (fun a5 => [(0, .ref (wA Ω j0)), (1, .ref (wA Ω 466)), (2, .int p2), (3, .int p3), (4, .int p4), (5, .int a5.1)]) (fun _ => []) (fun a5 => a5.2) ?_ FU (0, M)
            intro k6 hk6 a5
            unfold fX3_isPlaced_L1
            refine g_iload 5 rfl 21 rfl dX3_isPlaced_19 ?_
            refine g_iload_n 3 rfl rfl 22 rfl dX3_isPlaced_21 ?_
            refine g_icmp_gt 77 (by decide) 25 rfl dX3_isPlaced_22 ?_ ?_
            · refine g_sub [] [] rfl ?_
              exact hk4 a5.2
            · refine g_iload 5 rfl 27 rfl dX3_isPlaced_25 ?_
              refine g_iload 4 rfl 29 rfl dX3_isPlaced_27 ?_
              refine g_icmp_ge 77 (by decide) 32 rfl dX3_isPlaced_29 ?_ ?_
              · refine g_sub [] [] rfl ?_
                exact hk4 a5.2
              · refine g_aload_n 0 rfl rfl 33 rfl dX3_isPlaced_32 ?_
                refine g_aload_n 1 rfl rfl 34 rfl dX3_isPlaced_33 ?_
                refine g_iload_n 2 rfl rfl 35 rfl dX3_isPlaced_34 ?_
                refine g_iload 5 rfl 37 rfl dX3_isPlaced_35 ?_
                refine p_cSI [.ref (wA Ω j0), .ref (wA Ω 466), .int p2, .int a5.1] [] (c_X3_isPeaceful l hO hX hj0 a5.2 p2 a5.1) dX3_isPlaced_37 us_X3_37 rfl yk_X3_isPeaceful ⟨by omega, by omega⟩ (Nat.le_of_ble_eq_true rfl) rfl 40 rfl ?_
                intro x7
                refine g_join 71 (fun a8 => [(0, .ref (wA Ω j0)), (1, .ref (wA Ω 466)), (2, .int p2), (3, .int p3), (4, .int p4), (5, .int a5.1)]) (fun a8 => []) (fun a8 => a8) ?_ ?_
                · intro a8
                  refine g_iinc 5 rfl 1 (by decide) (fun x10 => [(5, .int x10), (0, .ref (wA Ω j0)), (1, .ref (wA Ω 466)), (2, .int p2), (3, .int p3), (4, .int p4)]) 74 rfl dX3_isPlaced_71 (by decide) (fun _ => rfl) ?_
                  intro x10
                  refine g_goto 19 (by decide) dX3_isPlaced_74 ?_
                  refine g_sub [(0, .ref (wA Ω j0)), (1, .ref (wA Ω 466)), (2, .int p2), (3, .int p3), (4, .int p4), (5, .int x10)] [1, 2, 3, 4, 5, 0] rfl ?_
                  exact hk6 (x10, a8)
                · intro k9 hk9
                  refine g_if_eq 71 (by decide) 43 rfl dX3_isPlaced_40 ?_ ?_
                  · exact hk9 a5.2
                  · refine g_aload_n 1 rfl rfl 44 rfl dX3_isPlaced_43 ?_
                    refine g_iload_n 2 rfl rfl 45 rfl dX3_isPlaced_44 ?_
                    refine g_iload 5 rfl 47 rfl dX3_isPlaced_45 ?_
                    refine w_iast (lx_P1 hX) 48 rfl dX3_isPlaced_47 ?_
                    intro M11
                    refine g_aload_n 0 rfl rfl 49 rfl dX3_isPlaced_48 ?_
                    refine g_aload_n 1 rfl rfl 50 rfl dX3_isPlaced_49 ?_
                    refine g_iload_n 2 rfl rfl 51 rfl dX3_isPlaced_50 ?_
                    refine g_iconst 1 52 rfl dX3_isPlaced_51 (by decide) ?_
                    refine g_iadd 53 rfl dX3_isPlaced_52 ?_
                    refine g_iload_n 3 rfl rfl 54 rfl dX3_isPlaced_53 ?_
                    refine g_iload 5 rfl 56 rfl dX3_isPlaced_54 ?_
                    refine g_iconst 1 57 rfl dX3_isPlaced_56 (by decide) ?_
                    refine g_iadd 58 rfl dX3_isPlaced_57 ?_
                    refine p_cTI [.int p3, .int (a5.1 + 1)] [.int (p2 + 1), .ref (wA Ω 466), .ref (wA Ω j0)] (c_J9_max_7cf53 l hO M11 p3 (a5.1 + 1)) dX3_isPlaced_58 ut_X3_41 yk_J9_max_7cf53 ⟨by omega, by omega⟩ (Nat.le_of_ble_eq_true rfl) rfl 61 rfl ?_
                    intro x12
                    refine g_iload 4 rfl 63 rfl dX3_isPlaced_61 ?_
                    refine g_cSI [.ref (wA Ω j0), .ref (wA Ω 466), .int (p2 + 1), .int x12, .int p4] [] (ih M11 (p2 + 1) x12 p4) dX3_isPlaced_63 us_X3_30 rfl yk_X3_isPlaced ⟨by omega, by omega⟩ (Nat.le_of_ble_eq_true rfl) rfl 66 rfl ?_
                    intro x13 M14
                    refine g_if_eq 71 (by decide) 69 rfl dX3_isPlaced_66 ?_ ?_
                    · exact hk9 M14
                    · refine g_iconst 1 70 rfl dX3_isPlaced_69 (by decide) ?_
                      exact g_zret rfl rfl dX3_isPlaced_70
        · refine g_sub [] [] rfl ?_
          exact hk2 ()
def fX3_clearanceTo_L1 (j0 : Nat) (p1 : Int32) (p2 : Int32) (M : Mem) (k2 : (Int32 × Int32) → Option Int32) (a1 : Int32 × Int32) : Option Int32 := if M j0 2 ≤ a1.2 then (some a1.1) else (grd (inb a1.2 6) (jn (fun (a3 : Int32) => bnd (a1.2 + 1) (fun x5 => k2 (a3, x5))) (fun k4 => if M 466 a1.2.toNatClampNeg = p2 then (clp (fX2_clearanceFrom M j0 p1 a1.2) (fun x6 => clp (fJ9_max_7cf53 M a1.1 x6) (fun x7 => k4 x7))) else (k4 a1.1))))
def fX3_clearanceTo (M : Mem) (j0 : Nat) (p1 : Int32) (p2 : Int32) : Option Int32 := lp (fX3_clearanceTo_L1 j0 p1 p2 M) FU (0, 0)
set_option maxRecDepth 100000 in
set_option maxHeartbeats 4000000 in
theorem c_X3_clearanceTo {Ω : Wd} (l : Launch) (hO : OkW Ω) (hX : LX Ω) {j0 : Nat} (hj0 : isJ j0) (M : Mem) (p1 : Int32) (p2 : Int32) : ∀ r, fX3_clearanceTo M j0 p1 p2 = some r → Ct l yX3_clearanceTo (.code yX3_clearanceTo cX3_clearanceTo 6 (some .int)) 1 22 Ω [.ref (wA Ω 465), .ref (wA Ω j0), .int p1, .int p2] M ((cpI M) r) := by
  refine ofG [(0, .ref (wA Ω 465)), (1, .ref (wA Ω j0)), (2, .int p1), (3, .int p2)] hO (by decide) rfl (Nat.le_of_ble_eq_true rfl) rfl ?_
  intro p e s m args below meth c
  unfold fX3_clearanceTo
  refine g_iconst 0 1 rfl dX3_clearanceTo_0 (by decide) ?_
  refine g_istoreA [(4, .int 0), (0, .ref (wA Ω 465)), (1, .ref (wA Ω j0)), (2, .int p1), (3, .int p2)] 3 rfl dX3_clearanceTo_1 (by decide) rfl ?_
  refine g_iconst 0 4 rfl dX3_clearanceTo_3 (by decide) ?_
  refine g_istoreA [(5, .int 0), (4, .int 0), (0, .ref (wA Ω 465)), (1, .ref (wA Ω j0)), (2, .int p1), (3, .int p2)] 6 rfl dX3_clearanceTo_4 (by decide) rfl ?_
  refine g_sub [(0, .ref (wA Ω 465)), (1, .ref (wA Ω j0)), (2, .int p1), (3, .int p2), (4, .int 0), (5, .int 0)] [2, 3, 4, 5, 1, 0] rfl ?_
  refine g_loop 6 (fun a1 => [(0, .ref (wA Ω 465)), (1, .ref (wA Ω j0)), (2, .int p1), (3, .int p2), (4, .int a1.1), (5, .int a1.2)]) (fun _ => []) (fun a1 => M) ?_ FU (0, 0)
  intro k2 hk2 a1
  unfold fX3_clearanceTo_L1
  refine g_iload 5 rfl 8 rfl dX3_clearanceTo_6 ?_
  refine g_aload_n 1 rfl rfl 9 rfl dX3_clearanceTo_8 ?_
  refine w_get (lx_J hX hj0) rfl in_X2 2 (by decide) wf_X3_24 rfl 12 rfl dX3_clearanceTo_9 ?_
  refine g_icmp_ge 46 (by decide) 15 rfl dX3_clearanceTo_12 ?_ ?_
  · refine g_iload 4 rfl 48 rfl dX3_clearanceTo_46 ?_
    exact p_iret rfl dX3_clearanceTo_48
  · refine g_aload_n 0 rfl rfl 16 rfl dX3_clearanceTo_15 ?_
    refine w_getR (lx_P hX) rfl in_X3 1 (by decide) wf_X3_9 466 rfl 19 rfl dX3_clearanceTo_16 ?_
    refine g_iload 5 rfl 21 rfl dX3_clearanceTo_19 ?_
    refine w_iald (lx_P1 hX) 22 rfl dX3_clearanceTo_21 ?_
    refine g_iload_n 3 rfl rfl 23 rfl dX3_clearanceTo_22 ?_
    refine g_join 40 (fun a3 => [(0, .ref (wA Ω 465)), (1, .ref (wA Ω j0)), (2, .int p1), (3, .int p2), (4, .int a3), (5, .int a1.2)]) (fun a3 => []) (fun a3 => M) ?_ ?_
    · intro a3
      refine g_iinc 5 rfl 1 (by decide) (fun x5 => [(5, .int x5), (0, .ref (wA Ω 465)), (1, .ref (wA Ω j0)), (2, .int p1), (3, .int p2), (4, .int a3)]) 43 rfl dX3_clearanceTo_40 (by decide) (fun _ => rfl) ?_
      intro x5
      refine g_goto 6 (by decide) dX3_clearanceTo_43 ?_
      refine g_sub [(0, .ref (wA Ω 465)), (1, .ref (wA Ω j0)), (2, .int p1), (3, .int p2), (4, .int a3), (5, .int x5)] [1, 2, 3, 4, 5, 0] rfl ?_
      exact hk2 (a3, x5)
    · intro k4 hk4
      refine g_icmp_ne 40 (by decide) 26 rfl dX3_clearanceTo_23 ?_ ?_
      · refine g_iload 4 rfl 28 rfl dX3_clearanceTo_26 ?_
        refine g_aload_n 1 rfl rfl 29 rfl dX3_clearanceTo_28 ?_
        refine g_iload_n 2 rfl rfl 30 rfl dX3_clearanceTo_29 ?_
        refine g_iload 5 rfl 32 rfl dX3_clearanceTo_30 ?_
        refine p_cVI j0 [.int p1, .int a1.2] [.int a1.1] (c_X2_clearanceFrom l hO hX hj0 M p1 a1.2) dX3_clearanceTo_32 uv_X3_82 rfl yk_X2_clearanceFrom ⟨by decide, by decide⟩ (lx_J hX hj0).1 (lx_J hX hj0).2 rfl (Nat.le_of_ble_eq_true rfl) rfl 35 rfl ?_
        intro x6
        refine p_cTI [.int a1.1, .int x6] [] (c_J9_max_7cf53 l hO M a1.1 x6) dX3_clearanceTo_35 ut_X3_41 yk_J9_max_7cf53 ⟨by decide, by decide⟩ (Nat.le_of_ble_eq_true rfl) rfl 38 rfl ?_
        intro x7
        refine g_istoreA [(4, .int x7), (0, .ref (wA Ω 465)), (1, .ref (wA Ω j0)), (2, .int p1), (3, .int p2), (5, .int a1.2)] 40 rfl dX3_clearanceTo_38 (by decide) rfl ?_
        refine g_sub [(0, .ref (wA Ω 465)), (1, .ref (wA Ω j0)), (2, .int p1), (3, .int p2), (4, .int x7), (5, .int a1.2)] [1, 2, 3, 4, 0, 5] rfl ?_
        exact hk4 x7
      · exact hk4 a1.1
def fX3_isClear_L1 (j0 : Nat) (p1 : Int32) (M : Mem) (a1 : Int32) (k4 : Unit → Option Int32) (k7 : Int32 → Option Int32) (a6 : Int32) : Option Int32 := if M j0 2 ≤ a6 then (k4 ()) else (grd (inb a1 6) (bnd (M 466 a1.toNatClampNeg) (fun x8 => grd (inb x8 6) (grd (inb x8 6) (grd (inb a6 6) (grd (inb (M 466 a6.toNatClampNeg) 6) (clp (fX9_gap M (M 467 x8.toNatClampNeg) (M 468 x8.toNatClampNeg) (M 467 (M 466 a6.toNatClampNeg).toNatClampNeg) p1) (fun x9 => clp (fX2_clearanceFrom M j0 a1 a6) (fun x10 => if x10 ≤ x9 then (bnd (a6 + 1) (fun x11 => k7 x11)) else (some 0))))))))))
def fX3_isClear_L2 (j0 : Nat) (p1 : Int32) (M : Mem) (k2 : Int32 → Option Int32) (a1 : Int32) : Option Int32 := if M j0 2 ≤ a1 then (some 1) else (jn (fun (a3 : Unit) => bnd (a1 + 1) (fun x5 => k2 x5)) (fun k4 => lp (fX3_isClear_L1 j0 p1 M a1 k4) FU 0))
def fX3_isClear (M : Mem) (j0 : Nat) (p1 : Int32) : Option Int32 := lp (fX3_isClear_L2 j0 p1 M) FU 0
set_option maxRecDepth 100000 in
set_option maxHeartbeats 4000000 in
theorem c_X3_isClear {Ω : Wd} (l : Launch) (hO : OkW Ω) (hX : LX Ω) {j0 : Nat} (hj0 : isJ j0) (M : Mem) (p1 : Int32) : ∀ r, fX3_isClear M j0 p1 = some r → Ct l yX3_isClear (.code yX3_isClear cX3_isClear 7 (some .boolean)) 2 45 Ω [.ref (wA Ω 465), .ref (wA Ω j0), .int p1] M ((cpI M) r) := by
  refine ofG [(0, .ref (wA Ω 465)), (1, .ref (wA Ω j0)), (2, .int p1)] hO (by decide) rfl (Nat.le_of_ble_eq_true rfl) rfl ?_
  intro p e s m args below meth c
  unfold fX3_isClear
  refine g_iconst 0 1 rfl dX3_isClear_0 (by decide) ?_
  refine g_istore_nA [(3, .int 0), (0, .ref (wA Ω 465)), (1, .ref (wA Ω j0)), (2, .int p1)] rfl 2 rfl dX3_isClear_1 (by decide) rfl ?_
  refine g_sub [(0, .ref (wA Ω 465)), (1, .ref (wA Ω j0)), (2, .int p1), (3, .int 0)] [1, 2, 3, 0] rfl ?_
  refine g_loop 2 (fun a1 => [(0, .ref (wA Ω 465)), (1, .ref (wA Ω j0)), (2, .int p1), (3, .int a1)]) (fun _ => []) (fun a1 => M) ?_ FU 0
  intro k2 hk2 a1
  unfold fX3_isClear_L2
  refine g_iload_n 3 rfl rfl 3 rfl dX3_isClear_2 ?_
  refine g_aload_n 1 rfl rfl 4 rfl dX3_isClear_3 ?_
  refine w_get (lx_J hX hj0) rfl in_X2 2 (by decide) wf_X3_24 rfl 7 rfl dX3_isClear_4 ?_
  refine g_icmp_ge 88 (by decide) 10 rfl dX3_isClear_7 ?_ ?_
  · refine g_iconst 1 89 rfl dX3_isClear_88 (by decide) ?_
    exact p_zret rfl rfl dX3_isClear_89
  · refine g_iconst 0 11 rfl dX3_isClear_10 (by decide) ?_
    refine g_istoreA [(4, .int 0), (0, .ref (wA Ω 465)), (1, .ref (wA Ω j0)), (2, .int p1), (3, .int a1)] 13 rfl dX3_isClear_11 (by decide) rfl ?_
    refine g_join 82 (fun a3 => [(0, .ref (wA Ω 465)), (1, .ref (wA Ω j0)), (2, .int p1), (3, .int a1)]) (fun a3 => []) (fun a3 => M) ?_ ?_
    · intro a3
      refine g_iinc 3 rfl 1 (by decide) (fun x5 => [(3, .int x5), (0, .ref (wA Ω 465)), (1, .ref (wA Ω j0)), (2, .int p1)]) 85 rfl dX3_isClear_82 (by decide) (fun _ => rfl) ?_
      intro x5
      refine g_goto 2 (by decide) dX3_isClear_85 ?_
      refine g_sub [(0, .ref (wA Ω 465)), (1, .ref (wA Ω j0)), (2, .int p1), (3, .int x5)] [1, 2, 3, 0] rfl ?_
      exact hk2 x5
    · intro k4 hk4
      refine g_sub [(0, .ref (wA Ω 465)), (1, .ref (wA Ω j0)), (2, .int p1), (3, .int a1), (4, .int 0)] [1, 2, 3, 4, 0] rfl ?_
      refine g_loop 13 (fun a6 => [(0, .ref (wA Ω 465)), (1, .ref (wA Ω j0)), (2, .int p1), (3, .int a1), (4, .int a6)]) (fun _ => []) (fun a6 => M) ?_ FU 0
      intro k7 hk7 a6
      unfold fX3_isClear_L1
      refine g_iload 4 rfl 15 rfl dX3_isClear_13 ?_
      refine g_aload_n 1 rfl rfl 16 rfl dX3_isClear_15 ?_
      refine w_get (lx_J hX hj0) rfl in_X2 2 (by decide) wf_X3_24 rfl 19 rfl dX3_isClear_16 ?_
      refine g_icmp_ge 82 (by decide) 22 rfl dX3_isClear_19 ?_ ?_
      · refine g_sub [(0, .ref (wA Ω 465)), (1, .ref (wA Ω j0)), (2, .int p1), (3, .int a1)] [0, 1, 2, 3] rfl ?_
        exact hk4 ()
      · refine g_aload_n 0 rfl rfl 23 rfl dX3_isClear_22 ?_
        refine w_getR (lx_P hX) rfl in_X3 1 (by decide) wf_X3_9 466 rfl 26 rfl dX3_isClear_23 ?_
        refine g_iload_n 3 rfl rfl 27 rfl dX3_isClear_26 ?_
        refine w_iald (lx_P1 hX) 28 rfl dX3_isClear_27 ?_
        refine g_istore (fun x8 => [(5, .int x8), (0, .ref (wA Ω 465)), (1, .ref (wA Ω j0)), (2, .int p1), (3, .int a1), (4, .int a6)]) 30 rfl dX3_isClear_28 (by decide) (fun _ => rfl) ?_
        intro x8
        refine g_aload_n 1 rfl rfl 31 rfl dX3_isClear_30 ?_
        refine w_getR (lx_P hX) rfl in_X3 2 (by decide) wf_X3_15 467 rfl 34 rfl dX3_isClear_31 ?_
        refine g_iload 0 rfl 36 rfl dX3_isClear_34 ?_
        refine w_iald (lx_P2 hX) 37 rfl dX3_isClear_36 ?_
        refine g_aload_n 1 rfl rfl 38 rfl dX3_isClear_37 ?_
        refine w_getR (lx_P hX) rfl in_X3 3 (by decide) wf_X3_18 468 rfl 41 rfl dX3_isClear_38 ?_
        refine g_iload 0 rfl 43 rfl dX3_isClear_41 ?_
        refine w_iald (lx_P3 hX) 44 rfl dX3_isClear_43 ?_
        refine g_aload_n 1 rfl rfl 45 rfl dX3_isClear_44 ?_
        refine w_getR (lx_P hX) rfl in_X3 2 (by decide) wf_X3_15 467 rfl 48 rfl dX3_isClear_45 ?_
        refine g_aload_n 1 rfl rfl 49 rfl dX3_isClear_48 ?_
        refine w_getR (lx_P hX) rfl in_X3 1 (by decide) wf_X3_9 466 rfl 52 rfl dX3_isClear_49 ?_
        refine g_iload 5 rfl 54 rfl dX3_isClear_52 ?_
        refine w_iald (lx_P1 hX) 55 rfl dX3_isClear_54 ?_
        refine w_iald (lx_P2 hX) 56 rfl dX3_isClear_55 ?_
        refine g_iload_n 3 rfl rfl 57 rfl dX3_isClear_56 ?_
        refine p_cSNI [.int (M 467 x8.toNatClampNeg), .int (M 468 x8.toNatClampNeg), .int (M 467 (M 466 a6.toNatClampNeg).toNatClampNeg), .int p1] [] (c_X9_gap l hO M (M 467 x8.toNatClampNeg) (M 468 x8.toNatClampNeg) (M 467 (M 466 a6.toNatClampNeg).toNatClampNeg) p1) dX3_isClear_57 wk_X3_85 ws_X9_gap wn_X9 wc_X9_gap yk_X9_gap ⟨by decide, by decide⟩ (Nat.le_of_ble_eq_true rfl) rfl 60 rfl ?_
        intro x9
        refine g_istoreA [(6, .int x9), (5, .int x8), (0, .ref (wA Ω 465)), (1, .ref (wA Ω j0)), (2, .int p1), (3, .int a1), (4, .int a6)] 62 rfl dX3_isClear_60 (by decide) rfl ?_
        refine g_iload 0 rfl 64 rfl dX3_isClear_62 ?_
        refine g_aload_n 3 rfl rfl 65 rfl dX3_isClear_64 ?_
        refine g_iload_n 5 rfl rfl 66 rfl dX3_isClear_65 ?_
        refine g_iload 6 rfl 68 rfl dX3_isClear_66 ?_
        refine p_cVI j0 [.int a1, .int a6] [.int x9] (c_X2_clearanceFrom l hO hX hj0 M a1 a6) dX3_isClear_68 uv_X3_82 rfl yk_X2_clearanceFrom ⟨by decide, by decide⟩ (lx_J hX hj0).1 (lx_J hX hj0).2 rfl (Nat.le_of_ble_eq_true rfl) rfl 71 rfl ?_
        intro x10
        refine g_icmp_ge 76 (by decide) 74 rfl dX3_isClear_71 ?_ ?_
        · refine g_iinc 6 rfl 1 (by decide) (fun x11 => [(4, .int x11), (6, .int x9), (5, .int x8), (0, .ref (wA Ω 465)), (1, .ref (wA Ω j0)), (2, .int p1), (3, .int a1)]) 79 rfl dX3_isClear_76 (by decide) (fun _ => rfl) ?_
          intro x11
          refine g_goto 13 (by decide) dX3_isClear_79 ?_
          refine g_sub [(0, .ref (wA Ω 465)), (1, .ref (wA Ω j0)), (2, .int p1), (3, .int a1), (4, .int x11)] [3, 4, 5, 6, 0] rfl ?_
          exact hk7 x11
        · refine g_iconst 0 75 rfl dX3_isClear_74 (by decide) ?_
          exact p_zret rfl rfl dX3_isClear_75
def fX7_distanceTo (M : Mem) (t0 : Nat) (p1 : Int32) (p2 : Int32) : Option Int32 := if 1 ≤ p2 then (clp (fX7_numberAt M t0 p1 (p2 - 1)) (fun x1 => grd (inb x1 4) (clp (fX7_numberAt M t0 p1 p2) (fun x3 => grd (inb x3 4) (clp (fJ9_abs_0f7a4 M ((M (t0 + 2 + 10 * x3.toNatClampNeg) 0) - (M (t0 + 2 + 10 * x1.toNatClampNeg) 0))) (fun x5 => some x5)))))) else (some 0)
set_option maxRecDepth 100000 in
set_option maxHeartbeats 4000000 in
theorem c_X7_distanceTo {Ω : Wd} (l : Launch) (hO : OkW Ω) (hX : LX Ω) {t0 : Nat} (ht0 : isS t0) (M : Mem) (p1 : Int32) (p2 : Int32) : ∀ r, fX7_distanceTo M t0 p1 p2 = some r → Ct l yX7_distanceTo (.code yX7_distanceTo cX7_distanceTo 6 (some .int)) 1 23 Ω [.ref (wA Ω 470), .ref (wA Ω t0), .int p1, .int p2] M ((cpI M) r) := by
  refine ofG [(0, .ref (wA Ω 470)), (1, .ref (wA Ω t0)), (2, .int p1), (3, .int p2)] hO (by decide) rfl (Nat.le_of_ble_eq_true rfl) rfl ?_
  intro p e s m args below meth c
  unfold fX7_distanceTo
  refine g_iload_n 3 rfl rfl 1 rfl dX7_distanceTo_0 ?_
  refine g_iconst 1 2 rfl dX7_distanceTo_1 (by decide) ?_
  refine g_icmp_ge 7 (by decide) 5 rfl dX7_distanceTo_2 ?_ ?_
  · refine g_aload_n 1 rfl rfl 8 rfl dX7_distanceTo_7 ?_
    refine w_getR (lx_S hX ht0) rfl in_X6 4 (by decide) wf_X7_21 (t0 + 1) rfl 11 rfl dX7_distanceTo_8 ?_
    refine g_aload_n 0 rfl rfl 12 rfl dX7_distanceTo_11 ?_
    refine g_aload_n 1 rfl rfl 13 rfl dX7_distanceTo_12 ?_
    refine g_iload_n 2 rfl rfl 14 rfl dX7_distanceTo_13 ?_
    refine g_iload_n 3 rfl rfl 15 rfl dX7_distanceTo_14 ?_
    refine g_iconst 1 16 rfl dX7_distanceTo_15 (by decide) ?_
    refine g_isub 17 rfl dX7_distanceTo_16 ?_
    refine p_cVI 470 [.ref (wA Ω t0), .int p1, .int (p2 - 1)] [.ref (wA Ω (t0 + 1))] (c_X7_numberAt l hO hX ht0 M p1 (p2 - 1)) dX7_distanceTo_17 uv_X7_41 rfl yk_X7_numberAt ⟨by decide, by decide⟩ (lx_T hX).1 (lx_T hX).2 rfl (Nat.le_of_ble_eq_true rfl) rfl 20 rfl ?_
    intro x1
    refine w_aald (lx_S1 hX ht0) 21 rfl dX7_distanceTo_20 ?_
    intro hn2
    refine g_astoreA [(4, .ref (wA Ω (t0 + 2 + 10 * x1.toNatClampNeg))), (0, .ref (wA Ω 470)), (1, .ref (wA Ω t0)), (2, .int p1), (3, .int p2)] 23 rfl dX7_distanceTo_21 (by decide) rfl ?_
    refine g_aload_n 2 rfl rfl 24 rfl dX7_distanceTo_23 ?_
    refine w_getR (lx_S hX ht0) rfl in_X6 4 (by decide) wf_X7_21 (t0 + 1) rfl 27 rfl dX7_distanceTo_24 ?_
    refine g_aload_n 1 rfl rfl 28 rfl dX7_distanceTo_27 ?_
    refine g_aload_n 2 rfl rfl 29 rfl dX7_distanceTo_28 ?_
    refine g_iload_n 3 rfl rfl 30 rfl dX7_distanceTo_29 ?_
    refine g_iload_n 4 rfl rfl 31 rfl dX7_distanceTo_30 ?_
    refine p_cVI 470 [.ref (wA Ω t0), .int p1, .int p2] [.ref (wA Ω (t0 + 1))] (c_X7_numberAt l hO hX ht0 M p1 p2) dX7_distanceTo_31 uv_X7_41 rfl yk_X7_numberAt ⟨by decide, by decide⟩ (lx_T hX).1 (lx_T hX).2 rfl (Nat.le_of_ble_eq_true rfl) rfl 34 rfl ?_
    intro x3
    refine w_aald (lx_S1 hX ht0) 35 rfl dX7_distanceTo_34 ?_
    intro hn4
    refine g_astoreA [(5, .ref (wA Ω (t0 + 2 + 10 * x3.toNatClampNeg))), (4, .ref (wA Ω (t0 + 2 + 10 * x1.toNatClampNeg))), (0, .ref (wA Ω 470)), (1, .ref (wA Ω t0)), (2, .int p1), (3, .int p2)] 37 rfl dX7_distanceTo_35 (by decide) rfl ?_
    refine g_aload 0 rfl 39 rfl dX7_distanceTo_37 ?_
    refine w_get (lx_J hX (isJ_S ht0 hn4)) rfl in_X2 0 (by decide) wf_X7_45 rfl 42 rfl dX7_distanceTo_39 ?_
    refine g_aload 1 rfl 44 rfl dX7_distanceTo_42 ?_
    refine w_get (lx_J hX (isJ_S ht0 hn2)) rfl in_X2 0 (by decide) wf_X7_45 rfl 47 rfl dX7_distanceTo_44 ?_
    refine g_isub 48 rfl dX7_distanceTo_47 ?_
    refine p_cTI [.int ((M (t0 + 2 + 10 * x3.toNatClampNeg) 0) - (M (t0 + 2 + 10 * x1.toNatClampNeg) 0))] [] (c_J9_abs_0f7a4 l hO M ((M (t0 + 2 + 10 * x3.toNatClampNeg) 0) - (M (t0 + 2 + 10 * x1.toNatClampNeg) 0))) dX7_distanceTo_48 ut_X7_48 yk_J9_abs_0f7a4 ⟨by decide, by decide⟩ (Nat.le_of_ble_eq_true rfl) rfl 51 rfl ?_
    intro x5
    exact p_iret rfl dX7_distanceTo_51
  · refine g_iconst 0 6 rfl dX7_distanceTo_5 (by decide) ?_
    exact p_iret rfl dX7_distanceTo_6
def fX7_secondsTo (M : Mem) (t0 : Nat) (p1 : Int32) (p2 : Int32) : Option Int32 := clp (fX7_distanceTo M t0 p1 p2) (fun x1 => jn (fun (a2 : Int32) => some a2) (fun k3 => if 1 ≤ M t0 1 then (grd (nz (M t0 1)) (k3 (((x1 + (M t0 1)) - 1) / (M t0 1)))) else (k3 0)))
set_option maxRecDepth 100000 in
set_option maxHeartbeats 4000000 in
theorem c_X7_secondsTo {Ω : Wd} (l : Launch) (hO : OkW Ω) (hX : LX Ω) {t0 : Nat} (ht0 : isS t0) (M : Mem) (p1 : Int32) (p2 : Int32) : ∀ r, fX7_secondsTo M t0 p1 p2 = some r → Ct l yX7_secondsTo (.code yX7_secondsTo cX7_secondsTo 5 (some .int)) 2 48 Ω [.ref (wA Ω 470), .ref (wA Ω t0), .int p1, .int p2] M ((cpI M) r) := by
  refine ofG [(0, .ref (wA Ω 470)), (1, .ref (wA Ω t0)), (2, .int p1), (3, .int p2)] hO (by decide) rfl (Nat.le_of_ble_eq_true rfl) rfl ?_
  intro p e s m args below meth c
  unfold fX7_secondsTo
  refine g_aload_n 0 rfl rfl 1 rfl dX7_secondsTo_0 ?_
  refine g_aload_n 1 rfl rfl 2 rfl dX7_secondsTo_1 ?_
  refine g_iload_n 2 rfl rfl 3 rfl dX7_secondsTo_2 ?_
  refine g_iload_n 3 rfl rfl 4 rfl dX7_secondsTo_3 ?_
  refine p_cVI 470 [.ref (wA Ω t0), .int p1, .int p2] [] (c_X7_distanceTo l hO hX ht0 M p1 p2) dX7_secondsTo_4 uv_X7_54 rfl yk_X7_distanceTo ⟨by decide, by decide⟩ (lx_T hX).1 (lx_T hX).2 rfl (Nat.le_of_ble_eq_true rfl) rfl 7 rfl ?_
  intro x1
  refine g_istoreA [(4, .int x1), (0, .ref (wA Ω 470)), (1, .ref (wA Ω t0)), (2, .int p1), (3, .int p2)] 9 rfl dX7_secondsTo_7 (by decide) rfl ?_
  refine g_aload_n 2 rfl rfl 10 rfl dX7_secondsTo_9 ?_
  refine w_get (lx_S hX ht0) rfl in_X6 1 (by decide) wf_X7_57 rfl 13 rfl dX7_secondsTo_10 ?_
  refine g_iconst 1 14 rfl dX7_secondsTo_13 (by decide) ?_
  refine g_join 35 (fun a2 => []) (fun a2 => [.int a2]) (fun a2 => M) ?_ ?_
  · intro a2
    exact p_iret rfl dX7_secondsTo_35
  · intro k3 hk3
    refine g_icmp_ge 21 (by decide) 17 rfl dX7_secondsTo_14 ?_ ?_
    · refine g_iload 0 rfl 23 rfl dX7_secondsTo_21 ?_
      refine g_aload_n 2 rfl rfl 24 rfl dX7_secondsTo_23 ?_
      refine w_get (lx_S hX ht0) rfl in_X6 1 (by decide) wf_X7_57 rfl 27 rfl dX7_secondsTo_24 ?_
      refine g_iadd 28 rfl dX7_secondsTo_27 ?_
      refine g_iconst 1 29 rfl dX7_secondsTo_28 (by decide) ?_
      refine g_isub 30 rfl dX7_secondsTo_29 ?_
      refine g_aload_n 2 rfl rfl 31 rfl dX7_secondsTo_30 ?_
      refine w_get (lx_S hX ht0) rfl in_X6 1 (by decide) wf_X7_57 rfl 34 rfl dX7_secondsTo_31 ?_
      refine g_idiv 35 rfl dX7_secondsTo_34 ?_
      refine g_sub [] [] rfl ?_
      exact hk3 (((x1 + (M t0 1)) - 1) / (M t0 1))
    · refine g_iconst 0 18 rfl dX7_secondsTo_17 (by decide) ?_
      refine g_goto 35 (by decide) dX7_secondsTo_18 ?_
      refine g_sub [] [] rfl ?_
      exact hk3 0
def fX7_waitAt (M : Mem) (t0 : Nat) (p1 : Int32) (p2 : Int32) (p3 : Int32) : Option Int32 := grd (inb p1 4) (clp (fX2_localSecond M (t0 + 2 + 10 * p1.toNatClampNeg) p3 (M t0 0)) (fun x2 => grd (inb p2 2) (clp (fX2_secondsUntilOn M (t0 + 2 + 10 * p1.toNatClampNeg) (M (t0 + 2 + 10 * p1.toNatClampNeg) 3) (M ((t0 + 2 + 10 * p1.toNatClampNeg) + 1) p2.toNatClampNeg) x2 (M t0 0)) (fun x3 => some x3))))
set_option maxRecDepth 100000 in
set_option maxHeartbeats 4000000 in
theorem c_X7_waitAt {Ω : Wd} (l : Launch) (hO : OkW Ω) (hX : LX Ω) {t0 : Nat} (ht0 : isS t0) (M : Mem) (p1 : Int32) (p2 : Int32) (p3 : Int32) : ∀ r, fX7_waitAt M t0 p1 p2 p3 = some r → Ct l yX7_waitAt (.code yX7_waitAt cX7_waitAt 7 (some .int)) 2 47 Ω [.ref (wA Ω 470), .ref (wA Ω t0), .int p1, .int p2, .int p3] M ((cpI M) r) := by
  refine ofG [(0, .ref (wA Ω 470)), (1, .ref (wA Ω t0)), (2, .int p1), (3, .int p2), (4, .int p3)] hO (by decide) rfl (Nat.le_of_ble_eq_true rfl) rfl ?_
  intro p e s m args below meth c
  unfold fX7_waitAt
  refine g_aload_n 1 rfl rfl 1 rfl dX7_waitAt_0 ?_
  refine w_getR (lx_S hX ht0) rfl in_X6 4 (by decide) wf_X7_21 (t0 + 1) rfl 4 rfl dX7_waitAt_1 ?_
  refine g_iload_n 2 rfl rfl 5 rfl dX7_waitAt_4 ?_
  refine w_aald (lx_S1 hX ht0) 6 rfl dX7_waitAt_5 ?_
  intro hn1
  refine g_astoreA [(5, .ref (wA Ω (t0 + 2 + 10 * p1.toNatClampNeg))), (0, .ref (wA Ω 470)), (1, .ref (wA Ω t0)), (2, .int p1), (3, .int p2), (4, .int p3)] 8 rfl dX7_waitAt_6 (by decide) rfl ?_
  refine g_aload 0 rfl 10 rfl dX7_waitAt_8 ?_
  refine g_iload 5 rfl 12 rfl dX7_waitAt_10 ?_
  refine g_aload_n 2 rfl rfl 13 rfl dX7_waitAt_12 ?_
  refine w_get (lx_S hX ht0) rfl in_X6 0 (by decide) wf_X7_60 rfl 16 rfl dX7_waitAt_13 ?_
  refine p_cVI (t0 + 2 + 10 * p1.toNatClampNeg) [.int p3, .int (M t0 0)] [] (c_X2_localSecond l hO hX (isJ_S ht0 hn1) M p3 (M t0 0)) dX7_waitAt_16 uv_X7_63 rfl yk_X2_localSecond ⟨by decide, by decide⟩ (lx_J hX (isJ_S ht0 hn1)).1 (lx_J hX (isJ_S ht0 hn1)).2 rfl (Nat.le_of_ble_eq_true rfl) rfl 19 rfl ?_
  intro x2
  refine g_istoreA [(6, .int x2), (5, .ref (wA Ω (t0 + 2 + 10 * p1.toNatClampNeg))), (0, .ref (wA Ω 470)), (1, .ref (wA Ω t0)), (2, .int p1), (3, .int p2), (4, .int p3)] 21 rfl dX7_waitAt_19 (by decide) rfl ?_
  refine g_aload 1 rfl 23 rfl dX7_waitAt_21 ?_
  refine g_aload 1 rfl 25 rfl dX7_waitAt_23 ?_
  refine w_get (lx_J hX (isJ_S ht0 hn1)) rfl in_X2 3 (by decide) wf_X7_31 rfl 28 rfl dX7_waitAt_25 ?_
  refine g_aload 1 rfl 30 rfl dX7_waitAt_28 ?_
  refine w_getR (lx_J hX (isJ_S ht0 hn1)) rfl in_X2 9 (by decide) wf_X7_34 ((t0 + 2 + 10 * p1.toNatClampNeg) + 1) rfl 33 rfl dX7_waitAt_30 ?_
  refine g_iload_n 5 rfl rfl 34 rfl dX7_waitAt_33 ?_
  refine w_iald (lx_J1 hX (isJ_S ht0 hn1)) 35 rfl dX7_waitAt_34 ?_
  refine g_iload 0 rfl 37 rfl dX7_waitAt_35 ?_
  refine g_aload_n 3 rfl rfl 38 rfl dX7_waitAt_37 ?_
  refine w_get (lx_S hX ht0) rfl in_X6 0 (by decide) wf_X7_60 rfl 41 rfl dX7_waitAt_38 ?_
  refine p_cVI (t0 + 2 + 10 * p1.toNatClampNeg) [.int (M (t0 + 2 + 10 * p1.toNatClampNeg) 3), .int (M ((t0 + 2 + 10 * p1.toNatClampNeg) + 1) p2.toNatClampNeg), .int x2, .int (M t0 0)] [] (c_X2_secondsUntilOn l hO hX (isJ_S ht0 hn1) M (M (t0 + 2 + 10 * p1.toNatClampNeg) 3) (M ((t0 + 2 + 10 * p1.toNatClampNeg) + 1) p2.toNatClampNeg) x2 (M t0 0)) dX7_waitAt_41 uv_X7_67 rfl yk_X2_secondsUntilOn ⟨by decide, by decide⟩ (lx_J hX (isJ_S ht0 hn1)).1 (lx_J hX (isJ_S ht0 hn1)).2 rfl (Nat.le_of_ble_eq_true rfl) rfl 44 rfl ?_
  intro x3
  exact p_iret rfl dX7_waitAt_44
def fX7_numberOf_L1 (t0 : Nat) (p1 : Int32) (M : Mem) (k2 : (Int32 × Int32 × Int32) → Option Int32) (k4 : (Int32 × Int32 × Int32 × Int32) → Option Int32) (a3 : Int32 × Int32 × Int32 × Int32) : Option Int32 := if M t0 3 ≤ a3.2.2.2 then (k2 (a3.1, a3.2.1, a3.2.2.1)) else (clp (fX7_secondsTo M t0 p1 a3.2.2.2) (fun x5 => bnd (a3.1 + x5) (fun x6 => clp (fX7_numberAt M t0 p1 a3.2.2.2) (fun x7 => clp (fX7_waitAt M t0 x7 p1 x6) (fun x8 => bnd (x6 + x8) (fun x9 => bnd (a3.2.2.1 + x8) (fun x10 => jn (fun (a11 : Int32) => bnd (a3.2.1 + a11) (fun x13 => bnd (a3.2.2.2 + 1) (fun x14 => k4 (x9, x13, x10, x14)))) (fun k12 => if x8 ≤ 0 then (k12 0) else (k12 1)))))))))
def fX7_numberOf (M : Mem) (t0 : Nat) (p1 : Int32) (p2 : Int32) (p3 : Int32) : Option Int32 := jn (fun (a1 : Int32 × Int32 × Int32) => if p3 = 0 then (some (a1.1 - p2)) else (if p3 = 1 then (some a1.2.1) else (some a1.2.2))) (fun k2 => lp (fX7_numberOf_L1 t0 p1 M k2) FU (p2, 0, 0, 0))
set_option maxRecDepth 100000 in
set_option maxHeartbeats 4000000 in
theorem c_X7_numberOf {Ω : Wd} (l : Launch) (hO : OkW Ω) (hX : LX Ω) {t0 : Nat} (ht0 : isS t0) (M : Mem) (p1 : Int32) (p2 : Int32) (p3 : Int32) : ∀ r, fX7_numberOf M t0 p1 p2 p3 = some r → Ct l yX7_numberOf (.code yX7_numberOf cX7_numberOf 10 (some .int)) 3 73 Ω [.ref (wA Ω 470), .ref (wA Ω t0), .int p1, .int p2, .int p3] M ((cpI M) r) := by
  refine ofG [(0, .ref (wA Ω 470)), (1, .ref (wA Ω t0)), (2, .int p1), (3, .int p2), (4, .int p3)] hO (by decide) rfl (Nat.le_of_ble_eq_true rfl) rfl ?_
  intro p e s m args below meth c
  unfold fX7_numberOf
  refine g_iload_n 3 rfl rfl 1 rfl dX7_numberOf_0 ?_
  refine g_istoreA [(5, .int p2), (0, .ref (wA Ω 470)), (1, .ref (wA Ω t0)), (2, .int p1), (3, .int p2), (4, .int p3)] 3 rfl dX7_numberOf_1 (by decide) rfl ?_
  refine g_iconst 0 4 rfl dX7_numberOf_3 (by decide) ?_
  refine g_istoreA [(6, .int 0), (5, .int p2), (0, .ref (wA Ω 470)), (1, .ref (wA Ω t0)), (2, .int p1), (3, .int p2), (4, .int p3)] 6 rfl dX7_numberOf_4 (by decide) rfl ?_
  refine g_iconst 0 7 rfl dX7_numberOf_6 (by decide) ?_
  refine g_istoreA [(7, .int 0), (6, .int 0), (5, .int p2), (0, .ref (wA Ω 470)), (1, .ref (wA Ω t0)), (2, .int p1), (3, .int p2), (4, .int p3)] 9 rfl dX7_numberOf_7 (by decide) rfl ?_
  refine g_iconst 0 10 rfl dX7_numberOf_9 (by decide) ?_
  refine g_istoreA [(8, .int 0), (7, .int 0), (6, .int 0), (5, .int p2), (0, .ref (wA Ω 470)), (1, .ref (wA Ω t0)), (2, .int p1), (3, .int p2), (4, .int p3)] 12 rfl dX7_numberOf_10 (by decide) rfl ?_
  refine g_join 87 (fun a1 => [(3, .int p2), (4, .int p3), (5, .int a1.1), (6, .int a1.2.1), (7, .int a1.2.2)]) (fun a1 => []) (fun a1 => M) ?_ ?_
  · intro a1
    refine g_iload 1 rfl 89 rfl dX7_numberOf_87 ?_
    refine g_case ?_ ?_
    · intro h89_0
      refine g_look (off := 27) 116 (by decide) (by rw [h89_0]; decide) (by decide) dX7_numberOf_89 ?_
      refine g_iload 2 rfl 118 rfl dX7_numberOf_116 ?_
      refine g_iload_n 0 rfl rfl 119 rfl dX7_numberOf_118 ?_
      refine g_isub 120 rfl dX7_numberOf_119 ?_
      exact p_iret rfl dX7_numberOf_120
    · intro h89_0
      refine g_case ?_ ?_
      · intro h89_1
        refine g_look (off := 32) 121 (by decide) (by rw [h89_1]; decide) (by decide) dX7_numberOf_89 ?_
        refine g_iload 3 rfl 123 rfl dX7_numberOf_121 ?_
        exact p_iret rfl dX7_numberOf_123
      · intro h89_1
        refine g_look (off := 35) 124 (by decide) ((lv_osw h89_0 rfl).trans ((lv_osw h89_1 rfl).trans (rfl))) (by decide) dX7_numberOf_89 ?_
        refine g_iload 4 rfl 126 rfl dX7_numberOf_124 ?_
        exact p_iret rfl dX7_numberOf_126
  · intro k2 hk2
    refine g_sub [(0, .ref (wA Ω 470)), (1, .ref (wA Ω t0)), (2, .int p1), (3, .int p2), (4, .int p3), (5, .int p2), (6, .int 0), (7, .int 0), (8, .int 0)] [4, 5, 6, 7, 8, 3, 2, 1, 0] rfl ?_
    refine g_loop 12 (fun a3 => [(0, .ref (wA Ω 470)), (1, .ref (wA Ω t0)), (2, .int p1), (3, .int p2), (4, .int p3), (5, .int a3.1), (6, .int a3.2.1), (7, .int a3.2.2.1), (8, .int a3.2.2.2)]) (fun _ => []) (fun a3 => M) ?_ FU (p2, 0, 0, 0)
    intro k4 hk4 a3
    unfold fX7_numberOf_L1
    refine g_iload 8 rfl 14 rfl dX7_numberOf_12 ?_
    refine g_aload_n 1 rfl rfl 15 rfl dX7_numberOf_14 ?_
    refine w_get (lx_S hX ht0) rfl in_X6 3 (by decide) wf_X7_15 rfl 18 rfl dX7_numberOf_15 ?_
    refine g_icmp_ge 87 (by decide) 21 rfl dX7_numberOf_18 ?_ ?_
    · refine g_sub [(3, .int p2), (4, .int p3), (5, .int a3.1), (6, .int a3.2.1), (7, .int a3.2.2.1)] [3, 4, 5, 6, 7] rfl ?_
      exact hk2 (a3.1, a3.2.1, a3.2.2.1)
    · refine g_iload 5 rfl 23 rfl dX7_numberOf_21 ?_
      refine g_aload_n 0 rfl rfl 24 rfl dX7_numberOf_23 ?_
      refine g_aload_n 1 rfl rfl 25 rfl dX7_numberOf_24 ?_
      refine g_iload_n 2 rfl rfl 26 rfl dX7_numberOf_25 ?_
      refine g_iload 8 rfl 28 rfl dX7_numberOf_26 ?_
      refine p_cVI 470 [.ref (wA Ω t0), .int p1, .int a3.2.2.2] [.int a3.1] (c_X7_secondsTo l hO hX ht0 M p1 a3.2.2.2) dX7_numberOf_28 uv_X7_71 rfl yk_X7_secondsTo ⟨by decide, by decide⟩ (lx_T hX).1 (lx_T hX).2 rfl (Nat.le_of_ble_eq_true rfl) rfl 31 rfl ?_
      intro x5
      refine g_iadd 32 rfl dX7_numberOf_31 ?_
      refine g_istore (fun x6 => [(5, .int x6), (0, .ref (wA Ω 470)), (1, .ref (wA Ω t0)), (2, .int p1), (3, .int p2), (4, .int p3), (6, .int a3.2.1), (7, .int a3.2.2.1), (8, .int a3.2.2.2)]) 34 rfl dX7_numberOf_32 (by decide) (fun _ => rfl) ?_
      intro x6
      refine g_aload_n 1 rfl rfl 35 rfl dX7_numberOf_34 ?_
      refine g_aload_n 2 rfl rfl 36 rfl dX7_numberOf_35 ?_
      refine g_aload_n 1 rfl rfl 37 rfl dX7_numberOf_36 ?_
      refine g_aload_n 2 rfl rfl 38 rfl dX7_numberOf_37 ?_
      refine g_iload_n 3 rfl rfl 39 rfl dX7_numberOf_38 ?_
      refine g_iload 8 rfl 41 rfl dX7_numberOf_39 ?_
      refine p_cVI 470 [.ref (wA Ω t0), .int p1, .int a3.2.2.2] [.ref (wA Ω t0), .ref (wA Ω 470)] (c_X7_numberAt l hO hX ht0 M p1 a3.2.2.2) dX7_numberOf_41 uv_X7_41 rfl yk_X7_numberAt ⟨by decide, by decide⟩ (lx_T hX).1 (lx_T hX).2 rfl (Nat.le_of_ble_eq_true rfl) rfl 44 rfl ?_
      intro x7
      refine g_iload_n 3 rfl rfl 45 rfl dX7_numberOf_44 ?_
      refine g_iload 0 rfl 47 rfl dX7_numberOf_45 ?_
      refine p_cVI 470 [.ref (wA Ω t0), .int x7, .int p1, .int x6] [] (c_X7_waitAt l hO hX ht0 M x7 p1 x6) dX7_numberOf_47 uv_X7_74 rfl yk_X7_waitAt ⟨by decide, by decide⟩ (lx_T hX).1 (lx_T hX).2 rfl (Nat.le_of_ble_eq_true rfl) rfl 50 rfl ?_
      intro x8
      refine g_istoreA [(9, .int x8), (5, .int x6), (0, .ref (wA Ω 470)), (1, .ref (wA Ω t0)), (2, .int p1), (3, .int p2), (4, .int p3), (6, .int a3.2.1), (7, .int a3.2.2.1), (8, .int a3.2.2.2)] 52 rfl dX7_numberOf_50 (by decide) rfl ?_
      refine g_iload 1 rfl 54 rfl dX7_numberOf_52 ?_
      refine g_iload 0 rfl 56 rfl dX7_numberOf_54 ?_
      refine g_iadd 57 rfl dX7_numberOf_56 ?_
      refine g_istore (fun x9 => [(5, .int x9), (9, .int x8), (0, .ref (wA Ω 470)), (1, .ref (wA Ω t0)), (2, .int p1), (3, .int p2), (4, .int p3), (6, .int a3.2.1), (7, .int a3.2.2.1), (8, .int a3.2.2.2)]) 59 rfl dX7_numberOf_57 (by decide) (fun _ => rfl) ?_
      intro x9
      refine g_iload 8 rfl 61 rfl dX7_numberOf_59 ?_
      refine g_iload 1 rfl 63 rfl dX7_numberOf_61 ?_
      refine g_iadd 64 rfl dX7_numberOf_63 ?_
      refine g_istore (fun x10 => [(7, .int x10), (5, .int x9), (9, .int x8), (0, .ref (wA Ω 470)), (1, .ref (wA Ω t0)), (2, .int p1), (3, .int p2), (4, .int p3), (6, .int a3.2.1), (8, .int a3.2.2.2)]) 66 rfl dX7_numberOf_64 (by decide) (fun _ => rfl) ?_
      intro x10
      refine g_iload 8 rfl 68 rfl dX7_numberOf_66 ?_
      refine g_iload 2 rfl 70 rfl dX7_numberOf_68 ?_
      refine g_join 78 (fun a11 => [(0, .ref (wA Ω 470)), (1, .ref (wA Ω t0)), (2, .int p1), (3, .int p2), (4, .int p3), (5, .int x9), (7, .int x10), (8, .int a3.2.2.2)]) (fun a11 => [.int a11, .int a3.2.1]) (fun a11 => M) ?_ ?_
      · intro a11
        refine g_iadd 79 rfl dX7_numberOf_78 ?_
        refine g_istore (fun x13 => [(6, .int x13), (0, .ref (wA Ω 470)), (1, .ref (wA Ω t0)), (2, .int p1), (3, .int p2), (4, .int p3), (5, .int x9), (7, .int x10), (8, .int a3.2.2.2)]) 81 rfl dX7_numberOf_79 (by decide) (fun _ => rfl) ?_
        intro x13
        refine g_iinc 8 rfl 1 (by decide) (fun x14 => [(8, .int x14), (6, .int x13), (0, .ref (wA Ω 470)), (1, .ref (wA Ω t0)), (2, .int p1), (3, .int p2), (4, .int p3), (5, .int x9), (7, .int x10)]) 84 rfl dX7_numberOf_81 (by decide) (fun _ => rfl) ?_
        intro x14
        refine g_goto 12 (by decide) dX7_numberOf_84 ?_
        refine g_sub [(0, .ref (wA Ω 470)), (1, .ref (wA Ω t0)), (2, .int p1), (3, .int p2), (4, .int p3), (5, .int x9), (6, .int x13), (7, .int x10), (8, .int x14)] [2, 3, 4, 5, 6, 7, 1, 8, 0] rfl ?_
        exact hk4 (x9, x13, x10, x14)
      · intro k12 hk12
        refine g_if_le 77 (by decide) 73 rfl dX7_numberOf_70 ?_ ?_
        · refine g_iconst 0 78 rfl dX7_numberOf_77 (by decide) ?_
          refine g_sub [(0, .ref (wA Ω 470)), (1, .ref (wA Ω t0)), (2, .int p1), (3, .int p2), (4, .int p3), (5, .int x9), (7, .int x10), (8, .int a3.2.2.2)] [3, 4, 5, 6, 7, 1, 0, 9] rfl ?_
          exact hk12 0
        · refine g_iconst 1 74 rfl dX7_numberOf_73 (by decide) ?_
          refine g_goto 78 (by decide) dX7_numberOf_74 ?_
          refine g_sub [(0, .ref (wA Ω 470)), (1, .ref (wA Ω t0)), (2, .int p1), (3, .int p2), (4, .int p3), (5, .int x9), (7, .int x10), (8, .int a3.2.2.2)] [3, 4, 5, 6, 7, 1, 0, 9] rfl ?_
          exact hk12 1
def fX7_secondsStepByStep_L1 (t0 : Nat) (p1 : Int32) (p2 : Int32) (M : Mem) (k2 : (Int32 × Int32 × Int32) → Option Int32) (a1 : Int32 × Int32 × Int32) : Option Int32 := if 10000 ≤ a1.2.2 then (some 10000) else (clp (fX7_distanceTo M t0 p1 a1.1) (fun x3 => jn (fun (a4 : Int32) => jn (fun (a6 : Int32 × Int32) => bnd (a6.2 + (M t0 1)) (fun x8 => bnd (a1.2.2 + 1) (fun x9 => k2 (a6.1, x8, x9)))) (fun k7 => if a4 = 0 then (k7 (a1.1, a1.2.1)) else (clp (fX7_numberAt M t0 p1 a1.1) (fun x10 => clp (fX7_waitAt M t0 x10 p1 (p2 + a1.2.2)) (fun x11 => if x11 = 0 then (if a1.1 + 1 < M t0 3 then (bnd (a1.1 + 1) (fun x12 => k7 (x12, 0))) else (some a1.2.2)) else (k7 (a1.1, a1.2.1))))))) (fun k5 => if a1.2.1 < x3 then (k5 0) else (k5 1))))
def fX7_secondsStepByStep (M : Mem) (t0 : Nat) (p1 : Int32) (p2 : Int32) : Option Int32 := lp (fX7_secondsStepByStep_L1 t0 p1 p2 M) FU (0, 0, 0)
set_option maxRecDepth 100000 in
set_option maxHeartbeats 4000000 in
theorem c_X7_secondsStepByStep {Ω : Wd} (l : Launch) (hO : OkW Ω) (hX : LX Ω) {t0 : Nat} (ht0 : isS t0) (M : Mem) (p1 : Int32) (p2 : Int32) : ∀ r, fX7_secondsStepByStep M t0 p1 p2 = some r → Ct l yX7_secondsStepByStep (.code yX7_secondsStepByStep cX7_secondsStepByStep 8 (some .int)) 3 73 Ω [.ref (wA Ω 470), .ref (wA Ω t0), .int p1, .int p2] M ((cpI M) r) := by
  refine ofG [(0, .ref (wA Ω 470)), (1, .ref (wA Ω t0)), (2, .int p1), (3, .int p2)] hO (by decide) rfl (Nat.le_of_ble_eq_true rfl) rfl ?_
  intro p e s m args below meth c
  unfold fX7_secondsStepByStep
  refine g_iconst 0 1 rfl dX7_secondsStepByStep_0 (by decide) ?_
  refine g_istoreA [(4, .int 0), (0, .ref (wA Ω 470)), (1, .ref (wA Ω t0)), (2, .int p1), (3, .int p2)] 3 rfl dX7_secondsStepByStep_1 (by decide) rfl ?_
  refine g_iconst 0 4 rfl dX7_secondsStepByStep_3 (by decide) ?_
  refine g_istoreA [(5, .int 0), (4, .int 0), (0, .ref (wA Ω 470)), (1, .ref (wA Ω t0)), (2, .int p1), (3, .int p2)] 6 rfl dX7_secondsStepByStep_4 (by decide) rfl ?_
  refine g_iconst 0 7 rfl dX7_secondsStepByStep_6 (by decide) ?_
  refine g_istoreA [(6, .int 0), (5, .int 0), (4, .int 0), (0, .ref (wA Ω 470)), (1, .ref (wA Ω t0)), (2, .int p1), (3, .int p2)] 9 rfl dX7_secondsStepByStep_7 (by decide) rfl ?_
  refine g_sub [(0, .ref (wA Ω 470)), (1, .ref (wA Ω t0)), (2, .int p1), (3, .int p2), (4, .int 0), (5, .int 0), (6, .int 0)] [3, 4, 5, 6, 2, 1, 0] rfl ?_
  refine g_loop 9 (fun a1 => [(0, .ref (wA Ω 470)), (1, .ref (wA Ω t0)), (2, .int p1), (3, .int p2), (4, .int a1.1), (5, .int a1.2.1), (6, .int a1.2.2)]) (fun _ => []) (fun a1 => M) ?_ FU (0, 0, 0)
  intro k2 hk2 a1
  unfold fX7_secondsStepByStep_L1
  refine g_iload 6 rfl 11 rfl dX7_secondsStepByStep_9 ?_
  refine g_sipush 10000 14 rfl dX7_secondsStepByStep_11 (by decide) ?_
  refine g_icmp_ge 98 (by decide) 17 rfl dX7_secondsStepByStep_14 ?_ ?_
  · refine g_sipush 10000 101 rfl dX7_secondsStepByStep_98 (by decide) ?_
    exact p_iret rfl dX7_secondsStepByStep_101
  · refine g_iload 5 rfl 19 rfl dX7_secondsStepByStep_17 ?_
    refine g_aload_n 0 rfl rfl 20 rfl dX7_secondsStepByStep_19 ?_
    refine g_aload_n 1 rfl rfl 21 rfl dX7_secondsStepByStep_20 ?_
    refine g_iload_n 2 rfl rfl 22 rfl dX7_secondsStepByStep_21 ?_
    refine g_iload 4 rfl 24 rfl dX7_secondsStepByStep_22 ?_
    refine p_cVI 470 [.ref (wA Ω t0), .int p1, .int a1.1] [.int a1.2.1] (c_X7_distanceTo l hO hX ht0 M p1 a1.1) dX7_secondsStepByStep_24 uv_X7_54 rfl yk_X7_distanceTo ⟨by decide, by decide⟩ (lx_T hX).1 (lx_T hX).2 rfl (Nat.le_of_ble_eq_true rfl) rfl 27 rfl ?_
    intro x3
    refine g_join 35 (fun a4 => [(0, .ref (wA Ω 470)), (1, .ref (wA Ω t0)), (2, .int p1), (3, .int p2), (4, .int a1.1), (5, .int a1.2.1), (6, .int a1.2.2)]) (fun a4 => [.int a4]) (fun a4 => M) ?_ ?_
    · intro a4
      refine g_istoreA [(7, .int a4), (0, .ref (wA Ω 470)), (1, .ref (wA Ω t0)), (2, .int p1), (3, .int p2), (4, .int a1.1), (5, .int a1.2.1), (6, .int a1.2.2)] 37 rfl dX7_secondsStepByStep_35 (by decide) rfl ?_
      refine g_iload 0 rfl 39 rfl dX7_secondsStepByStep_37 ?_
      refine g_join 83 (fun a6 => [(0, .ref (wA Ω 470)), (1, .ref (wA Ω t0)), (2, .int p1), (3, .int p2), (4, .int a6.1), (5, .int a6.2), (6, .int a1.2.2)]) (fun a6 => []) (fun a6 => M) ?_ ?_
      · intro a6
        refine g_iload 5 rfl 85 rfl dX7_secondsStepByStep_83 ?_
        refine g_aload_n 1 rfl rfl 86 rfl dX7_secondsStepByStep_85 ?_
        refine w_get (lx_S hX ht0) rfl in_X6 1 (by decide) wf_X7_57 rfl 89 rfl dX7_secondsStepByStep_86 ?_
        refine g_iadd 90 rfl dX7_secondsStepByStep_89 ?_
        refine g_istore (fun x8 => [(5, .int x8), (0, .ref (wA Ω 470)), (1, .ref (wA Ω t0)), (2, .int p1), (3, .int p2), (4, .int a6.1), (6, .int a1.2.2)]) 92 rfl dX7_secondsStepByStep_90 (by decide) (fun _ => rfl) ?_
        intro x8
        refine g_iinc 6 rfl 1 (by decide) (fun x9 => [(6, .int x9), (5, .int x8), (0, .ref (wA Ω 470)), (1, .ref (wA Ω t0)), (2, .int p1), (3, .int p2), (4, .int a6.1)]) 95 rfl dX7_secondsStepByStep_92 (by decide) (fun _ => rfl) ?_
        intro x9
        refine g_goto 9 (by decide) dX7_secondsStepByStep_95 ?_
        refine g_sub [(0, .ref (wA Ω 470)), (1, .ref (wA Ω t0)), (2, .int p1), (3, .int p2), (4, .int a6.1), (5, .int x8), (6, .int x9)] [2, 3, 4, 5, 6, 1, 0] rfl ?_
        exact hk2 (a6.1, x8, x9)
      · intro k7 hk7
        refine g_if_eq 83 (by decide) 42 rfl dX7_secondsStepByStep_39 ?_ ?_
        · refine g_sub [(0, .ref (wA Ω 470)), (1, .ref (wA Ω t0)), (2, .int p1), (3, .int p2), (4, .int a1.1), (5, .int a1.2.1), (6, .int a1.2.2)] [1, 2, 3, 4, 5, 6, 7] rfl ?_
          exact hk7 (a1.1, a1.2.1)
        · refine g_aload_n 1 rfl rfl 43 rfl dX7_secondsStepByStep_42 ?_
          refine g_aload_n 2 rfl rfl 44 rfl dX7_secondsStepByStep_43 ?_
          refine g_aload_n 1 rfl rfl 45 rfl dX7_secondsStepByStep_44 ?_
          refine g_aload_n 2 rfl rfl 46 rfl dX7_secondsStepByStep_45 ?_
          refine g_iload_n 3 rfl rfl 47 rfl dX7_secondsStepByStep_46 ?_
          refine g_iload 5 rfl 49 rfl dX7_secondsStepByStep_47 ?_
          refine p_cVI 470 [.ref (wA Ω t0), .int p1, .int a1.1] [.ref (wA Ω t0), .ref (wA Ω 470)] (c_X7_numberAt l hO hX ht0 M p1 a1.1) dX7_secondsStepByStep_49 uv_X7_41 rfl yk_X7_numberAt ⟨by decide, by decide⟩ (lx_T hX).1 (lx_T hX).2 rfl (Nat.le_of_ble_eq_true rfl) rfl 52 rfl ?_
          intro x10
          refine g_iload_n 3 rfl rfl 53 rfl dX7_secondsStepByStep_52 ?_
          refine g_iload_n 4 rfl rfl 54 rfl dX7_secondsStepByStep_53 ?_
          refine g_iload 7 rfl 56 rfl dX7_secondsStepByStep_54 ?_
          refine g_iadd 57 rfl dX7_secondsStepByStep_56 ?_
          refine p_cVI 470 [.ref (wA Ω t0), .int x10, .int p1, .int (p2 + a1.2.2)] [] (c_X7_waitAt l hO hX ht0 M x10 p1 (p2 + a1.2.2)) dX7_secondsStepByStep_57 uv_X7_74 rfl yk_X7_waitAt ⟨by decide, by decide⟩ (lx_T hX).1 (lx_T hX).2 rfl (Nat.le_of_ble_eq_true rfl) rfl 60 rfl ?_
          intro x11
          refine g_if_ne 83 (by decide) 63 rfl dX7_secondsStepByStep_60 ?_ ?_
          · refine g_iload 5 rfl 65 rfl dX7_secondsStepByStep_63 ?_
            refine g_iconst 1 66 rfl dX7_secondsStepByStep_65 (by decide) ?_
            refine g_iadd 67 rfl dX7_secondsStepByStep_66 ?_
            refine g_aload_n 2 rfl rfl 68 rfl dX7_secondsStepByStep_67 ?_
            refine w_get (lx_S hX ht0) rfl in_X6 3 (by decide) wf_X7_15 rfl 71 rfl dX7_secondsStepByStep_68 ?_
            refine g_icmp_lt 77 (by decide) 74 rfl dX7_secondsStepByStep_71 ?_ ?_
            · refine g_iinc 5 rfl 1 (by decide) (fun x12 => [(4, .int x12), (7, .int a4), (0, .ref (wA Ω 470)), (1, .ref (wA Ω t0)), (2, .int p1), (3, .int p2), (5, .int a1.2.1), (6, .int a1.2.2)]) 80 rfl dX7_secondsStepByStep_77 (by decide) (fun _ => rfl) ?_
              intro x12
              refine g_iconst 0 81 rfl dX7_secondsStepByStep_80 (by decide) ?_
              refine g_istoreA [(5, .int 0), (4, .int x12), (7, .int a4), (0, .ref (wA Ω 470)), (1, .ref (wA Ω t0)), (2, .int p1), (3, .int p2), (6, .int a1.2.2)] 83 rfl dX7_secondsStepByStep_81 (by decide) rfl ?_
              refine g_sub [(0, .ref (wA Ω 470)), (1, .ref (wA Ω t0)), (2, .int p1), (3, .int p2), (4, .int x12), (5, .int 0), (6, .int a1.2.2)] [3, 4, 5, 6, 1, 0, 7] rfl ?_
              exact hk7 (x12, 0)
            · refine g_iload 7 rfl 76 rfl dX7_secondsStepByStep_74 ?_
              exact p_iret rfl dX7_secondsStepByStep_76
          · refine g_sub [(0, .ref (wA Ω 470)), (1, .ref (wA Ω t0)), (2, .int p1), (3, .int p2), (4, .int a1.1), (5, .int a1.2.1), (6, .int a1.2.2)] [1, 2, 3, 4, 5, 6, 7] rfl ?_
            exact hk7 (a1.1, a1.2.1)
    · intro k5 hk5
      refine g_icmp_lt 34 (by decide) 30 rfl dX7_secondsStepByStep_27 ?_ ?_
      · refine g_iconst 0 35 rfl dX7_secondsStepByStep_34 (by decide) ?_
        exact hk5 0
      · refine g_iconst 1 31 rfl dX7_secondsStepByStep_30 (by decide) ?_
        refine g_goto 35 (by decide) dX7_secondsStepByStep_31 ?_
        exact hk5 1
def fX7_isFree_L1 (t0 : Nat) (p1 : Int32) (p3 : Int32) (M : Mem) (k2 : (Int32 × Int32) → Option Int32) (a1 : Int32 × Int32) : Option Int32 := if M t0 3 ≤ a1.2 then (some 1) else (clp (fX7_secondsTo M t0 p1 a1.2) (fun x3 => bnd (a1.1 + x3) (fun x4 => clp (fX7_numberAt M t0 p1 a1.2) (fun x5 => jn (fun (a6 : Unit) => bnd (a1.2 + 1) (fun x8 => k2 (x4, x8))) (fun k7 => if x5 = p3 then (k7 ()) else (clp (fX7_waitAt M t0 x5 p1 x4) (fun x9 => if x9 ≤ 0 then (k7 ()) else (some 0))))))))
def fX7_isFree (M : Mem) (t0 : Nat) (p1 : Int32) (p2 : Int32) (p3 : Int32) : Option Int32 := lp (fX7_isFree_L1 t0 p1 p3 M) FU (p2, 0)
set_option maxRecDepth 100000 in
set_option maxHeartbeats 4000000 in
theorem c_X7_isFree {Ω : Wd} (l : Launch) (hO : OkW Ω) (hX : LX Ω) {t0 : Nat} (ht0 : isS t0) (M : Mem) (p1 : Int32) (p2 : Int32) (p3 : Int32) : ∀ r, fX7_isFree M t0 p1 p2 p3 = some r → Ct l yX7_isFree (.code yX7_isFree cX7_isFree 8 (some .boolean)) 3 73 Ω [.ref (wA Ω 470), .ref (wA Ω t0), .int p1, .int p2, .int p3] M ((cpI M) r) := by
  refine ofG [(0, .ref (wA Ω 470)), (1, .ref (wA Ω t0)), (2, .int p1), (3, .int p2), (4, .int p3)] hO (by decide) rfl (Nat.le_of_ble_eq_true rfl) rfl ?_
  intro p e s m args below meth c
  unfold fX7_isFree
  refine g_iload_n 3 rfl rfl 1 rfl dX7_isFree_0 ?_
  refine g_istoreA [(5, .int p2), (0, .ref (wA Ω 470)), (1, .ref (wA Ω t0)), (2, .int p1), (3, .int p2), (4, .int p3)] 3 rfl dX7_isFree_1 (by decide) rfl ?_
  refine g_iconst 0 4 rfl dX7_isFree_3 (by decide) ?_
  refine g_istoreA [(6, .int 0), (5, .int p2), (0, .ref (wA Ω 470)), (1, .ref (wA Ω t0)), (2, .int p1), (3, .int p2), (4, .int p3)] 6 rfl dX7_isFree_4 (by decide) rfl ?_
  refine g_sub [(0, .ref (wA Ω 470)), (1, .ref (wA Ω t0)), (2, .int p1), (4, .int p3), (5, .int p2), (6, .int 0)] [2, 3, 4, 6, 1, 0] rfl ?_
  refine g_loop 6 (fun a1 => [(0, .ref (wA Ω 470)), (1, .ref (wA Ω t0)), (2, .int p1), (4, .int p3), (5, .int a1.1), (6, .int a1.2)]) (fun _ => []) (fun a1 => M) ?_ FU (p2, 0)
  intro k2 hk2 a1
  unfold fX7_isFree_L1
  refine g_iload 5 rfl 8 rfl dX7_isFree_6 ?_
  refine g_aload_n 1 rfl rfl 9 rfl dX7_isFree_8 ?_
  refine w_get (lx_S hX ht0) rfl in_X6 3 (by decide) wf_X7_15 rfl 12 rfl dX7_isFree_9 ?_
  refine g_icmp_ge 66 (by decide) 15 rfl dX7_isFree_12 ?_ ?_
  · refine g_iconst 1 67 rfl dX7_isFree_66 (by decide) ?_
    exact p_zret rfl rfl dX7_isFree_67
  · refine g_iload 4 rfl 17 rfl dX7_isFree_15 ?_
    refine g_aload_n 0 rfl rfl 18 rfl dX7_isFree_17 ?_
    refine g_aload_n 1 rfl rfl 19 rfl dX7_isFree_18 ?_
    refine g_iload_n 2 rfl rfl 20 rfl dX7_isFree_19 ?_
    refine g_iload 5 rfl 22 rfl dX7_isFree_20 ?_
    refine p_cVI 470 [.ref (wA Ω t0), .int p1, .int a1.2] [.int a1.1] (c_X7_secondsTo l hO hX ht0 M p1 a1.2) dX7_isFree_22 uv_X7_71 rfl yk_X7_secondsTo ⟨by decide, by decide⟩ (lx_T hX).1 (lx_T hX).2 rfl (Nat.le_of_ble_eq_true rfl) rfl 25 rfl ?_
    intro x3
    refine g_iadd 26 rfl dX7_isFree_25 ?_
    refine g_istore (fun x4 => [(5, .int x4), (0, .ref (wA Ω 470)), (1, .ref (wA Ω t0)), (2, .int p1), (4, .int p3), (6, .int a1.2)]) 28 rfl dX7_isFree_26 (by decide) (fun _ => rfl) ?_
    intro x4
    refine g_aload_n 1 rfl rfl 29 rfl dX7_isFree_28 ?_
    refine g_aload_n 2 rfl rfl 30 rfl dX7_isFree_29 ?_
    refine g_iload_n 3 rfl rfl 31 rfl dX7_isFree_30 ?_
    refine g_iload 5 rfl 33 rfl dX7_isFree_31 ?_
    refine p_cVI 470 [.ref (wA Ω t0), .int p1, .int a1.2] [] (c_X7_numberAt l hO hX ht0 M p1 a1.2) dX7_isFree_33 uv_X7_41 rfl yk_X7_numberAt ⟨by decide, by decide⟩ (lx_T hX).1 (lx_T hX).2 rfl (Nat.le_of_ble_eq_true rfl) rfl 36 rfl ?_
    intro x5
    refine g_istoreA [(7, .int x5), (5, .int x4), (0, .ref (wA Ω 470)), (1, .ref (wA Ω t0)), (2, .int p1), (4, .int p3), (6, .int a1.2)] 38 rfl dX7_isFree_36 (by decide) rfl ?_
    refine g_iload 0 rfl 40 rfl dX7_isFree_38 ?_
    refine g_iload 5 rfl 42 rfl dX7_isFree_40 ?_
    refine g_join 60 (fun a6 => [(0, .ref (wA Ω 470)), (1, .ref (wA Ω t0)), (2, .int p1), (4, .int p3), (5, .int x4), (6, .int a1.2)]) (fun a6 => []) (fun a6 => M) ?_ ?_
    · intro a6
      refine g_iinc 5 rfl 1 (by decide) (fun x8 => [(6, .int x8), (0, .ref (wA Ω 470)), (1, .ref (wA Ω t0)), (2, .int p1), (4, .int p3), (5, .int x4)]) 63 rfl dX7_isFree_60 (by decide) (fun _ => rfl) ?_
      intro x8
      refine g_goto 6 (by decide) dX7_isFree_63 ?_
      refine g_sub [(0, .ref (wA Ω 470)), (1, .ref (wA Ω t0)), (2, .int p1), (4, .int p3), (5, .int x4), (6, .int x8)] [1, 2, 3, 4, 5, 0] rfl ?_
      exact hk2 (x4, x8)
    · intro k7 hk7
      refine g_icmp_eq 60 (by decide) 45 rfl dX7_isFree_42 ?_ ?_
      · refine g_sub [(0, .ref (wA Ω 470)), (1, .ref (wA Ω t0)), (2, .int p1), (4, .int p3), (5, .int x4), (6, .int a1.2)] [2, 3, 4, 5, 1, 6] rfl ?_
        exact hk7 ()
      · refine g_aload_n 2 rfl rfl 46 rfl dX7_isFree_45 ?_
        refine g_aload_n 3 rfl rfl 47 rfl dX7_isFree_46 ?_
        refine g_iload 0 rfl 49 rfl dX7_isFree_47 ?_
        refine g_iload_n 4 rfl rfl 50 rfl dX7_isFree_49 ?_
        refine g_iload 1 rfl 52 rfl dX7_isFree_50 ?_
        refine p_cVI 470 [.ref (wA Ω t0), .int x5, .int p1, .int x4] [] (c_X7_waitAt l hO hX ht0 M x5 p1 x4) dX7_isFree_52 uv_X7_74 rfl yk_X7_waitAt ⟨by decide, by decide⟩ (lx_T hX).1 (lx_T hX).2 rfl (Nat.le_of_ble_eq_true rfl) rfl 55 rfl ?_
        intro x9
        refine g_if_le 60 (by decide) 58 rfl dX7_isFree_55 ?_ ?_
        · refine g_sub [(0, .ref (wA Ω 470)), (1, .ref (wA Ω t0)), (2, .int p1), (4, .int p3), (5, .int x4), (6, .int a1.2)] [2, 3, 4, 5, 1, 6] rfl ?_
          exact hk7 ()
        · refine g_iconst 0 59 rfl dX7_isFree_58 (by decide) ?_
          exact p_zret rfl rfl dX7_isFree_59
def fX7_secondsBefore_L1 (t0 : Nat) (p1 : Int32) (p2 : Int32) (M : Mem) (k2 : (Int32 × Int32) → Option Int32) (a1 : Int32 × Int32) : Option Int32 := if M t0 3 ≤ a1.2 then (some a1.1) else (clp (fX7_secondsTo M t0 p2 a1.2) (fun x3 => bnd (a1.1 + x3) (fun x4 => clp (fX7_numberAt M t0 p2 a1.2) (fun x5 => if x5 = p1 then (some x4) else (bnd (a1.2 + 1) (fun x6 => k2 (x4, x6)))))))
def fX7_secondsBefore (M : Mem) (t0 : Nat) (p1 : Int32) (p2 : Int32) : Option Int32 := lp (fX7_secondsBefore_L1 t0 p1 p2 M) FU (0, 0)
set_option maxRecDepth 100000 in
set_option maxHeartbeats 4000000 in
theorem c_X7_secondsBefore {Ω : Wd} (l : Launch) (hO : OkW Ω) (hX : LX Ω) {t0 : Nat} (ht0 : isS t0) (M : Mem) (p1 : Int32) (p2 : Int32) : ∀ r, fX7_secondsBefore M t0 p1 p2 = some r → Ct l yX7_secondsBefore (.code yX7_secondsBefore cX7_secondsBefore 6 (some .int)) 3 72 Ω [.ref (wA Ω 470), .ref (wA Ω t0), .int p1, .int p2] M ((cpI M) r) := by
  refine ofG [(0, .ref (wA Ω 470)), (1, .ref (wA Ω t0)), (2, .int p1), (3, .int p2)] hO (by decide) rfl (Nat.le_of_ble_eq_true rfl) rfl ?_
  intro p e s m args below meth c
  unfold fX7_secondsBefore
  refine g_iconst 0 1 rfl dX7_secondsBefore_0 (by decide) ?_
  refine g_istoreA [(4, .int 0), (0, .ref (wA Ω 470)), (1, .ref (wA Ω t0)), (2, .int p1), (3, .int p2)] 3 rfl dX7_secondsBefore_1 (by decide) rfl ?_
  refine g_iconst 0 4 rfl dX7_secondsBefore_3 (by decide) ?_
  refine g_istoreA [(5, .int 0), (4, .int 0), (0, .ref (wA Ω 470)), (1, .ref (wA Ω t0)), (2, .int p1), (3, .int p2)] 6 rfl dX7_secondsBefore_4 (by decide) rfl ?_
  refine g_sub [(0, .ref (wA Ω 470)), (1, .ref (wA Ω t0)), (2, .int p1), (3, .int p2), (4, .int 0), (5, .int 0)] [2, 3, 4, 5, 1, 0] rfl ?_
  refine g_loop 6 (fun a1 => [(0, .ref (wA Ω 470)), (1, .ref (wA Ω t0)), (2, .int p1), (3, .int p2), (4, .int a1.1), (5, .int a1.2)]) (fun _ => []) (fun a1 => M) ?_ FU (0, 0)
  intro k2 hk2 a1
  unfold fX7_secondsBefore_L1
  refine g_iload 5 rfl 8 rfl dX7_secondsBefore_6 ?_
  refine g_aload_n 1 rfl rfl 9 rfl dX7_secondsBefore_8 ?_
  refine w_get (lx_S hX ht0) rfl in_X6 3 (by decide) wf_X7_15 rfl 12 rfl dX7_secondsBefore_9 ?_
  refine g_icmp_ge 49 (by decide) 15 rfl dX7_secondsBefore_12 ?_ ?_
  · refine g_iload 4 rfl 51 rfl dX7_secondsBefore_49 ?_
    exact p_iret rfl dX7_secondsBefore_51
  · refine g_iload 4 rfl 17 rfl dX7_secondsBefore_15 ?_
    refine g_aload_n 0 rfl rfl 18 rfl dX7_secondsBefore_17 ?_
    refine g_aload_n 1 rfl rfl 19 rfl dX7_secondsBefore_18 ?_
    refine g_iload_n 3 rfl rfl 20 rfl dX7_secondsBefore_19 ?_
    refine g_iload 5 rfl 22 rfl dX7_secondsBefore_20 ?_
    refine p_cVI 470 [.ref (wA Ω t0), .int p2, .int a1.2] [.int a1.1] (c_X7_secondsTo l hO hX ht0 M p2 a1.2) dX7_secondsBefore_22 uv_X7_71 rfl yk_X7_secondsTo ⟨by decide, by decide⟩ (lx_T hX).1 (lx_T hX).2 rfl (Nat.le_of_ble_eq_true rfl) rfl 25 rfl ?_
    intro x3
    refine g_iadd 26 rfl dX7_secondsBefore_25 ?_
    refine g_istore (fun x4 => [(4, .int x4), (0, .ref (wA Ω 470)), (1, .ref (wA Ω t0)), (2, .int p1), (3, .int p2), (5, .int a1.2)]) 28 rfl dX7_secondsBefore_26 (by decide) (fun _ => rfl) ?_
    intro x4
    refine g_aload_n 1 rfl rfl 29 rfl dX7_secondsBefore_28 ?_
    refine g_aload_n 2 rfl rfl 30 rfl dX7_secondsBefore_29 ?_
    refine g_iload_n 4 rfl rfl 31 rfl dX7_secondsBefore_30 ?_
    refine g_iload 5 rfl 33 rfl dX7_secondsBefore_31 ?_
    refine p_cVI 470 [.ref (wA Ω t0), .int p2, .int a1.2] [] (c_X7_numberAt l hO hX ht0 M p2 a1.2) dX7_secondsBefore_33 uv_X7_41 rfl yk_X7_numberAt ⟨by decide, by decide⟩ (lx_T hX).1 (lx_T hX).2 rfl (Nat.le_of_ble_eq_true rfl) rfl 36 rfl ?_
    intro x5
    refine g_iload_n 3 rfl rfl 37 rfl dX7_secondsBefore_36 ?_
    refine g_icmp_ne 43 (by decide) 40 rfl dX7_secondsBefore_37 ?_ ?_
    · refine g_iload 0 rfl 42 rfl dX7_secondsBefore_40 ?_
      exact p_iret rfl dX7_secondsBefore_42
    · refine g_iinc 5 rfl 1 (by decide) (fun x6 => [(5, .int x6), (4, .int x4), (0, .ref (wA Ω 470)), (1, .ref (wA Ω t0)), (2, .int p1), (3, .int p2)]) 46 rfl dX7_secondsBefore_43 (by decide) (fun _ => rfl) ?_
      intro x6
      refine g_goto 6 (by decide) dX7_secondsBefore_46 ?_
      refine g_sub [(0, .ref (wA Ω 470)), (1, .ref (wA Ω t0)), (2, .int p1), (3, .int p2), (4, .int x4), (5, .int x6)] [2, 3, 4, 5, 1, 0] rfl ?_
      exact hk2 (x4, x6)
def fX7_bandWith_L1 (t0 : Nat) (p1 : Int32) (p3 : Int32) (p4 : Int32) (M : Mem) (x2 : Int32) (k4 : Int32 → Option Int32) (k6 : (Int32 × Int32) → Option Int32) (a5 : Int32 × Int32) : Option Int32 := if p4 ≤ a5.2 then (k4 a5.1) else (if 120 ≤ a5.2 then (k4 a5.1) else (grd (inb a5.2 120) (clp (fX2_isOn M (t0 + 2 + 10 * p1.toNatClampNeg) (M (t0 + 2 + 10 * p1.toNatClampNeg) 3) x2 ((M 471 a5.2.toNatClampNeg) + p3) (M t0 0)) (fun x7 => jn (fun (a8 : Int32) => bnd (a5.1 + a8) (fun x10 => bnd (a5.2 + 1) (fun x11 => k6 (x10, x11)))) (fun k9 => if x7 = 0 then (k9 0) else (k9 1))))))
def fX7_bandWith (M : Mem) (t0 : Nat) (p1 : Int32) (p2 : Int32) (p3 : Int32) (p4 : Int32) : Option Int32 := grd (inb p1 4) (grd (inb p2 2) (bnd (M ((t0 + 2 + 10 * p1.toNatClampNeg) + 1) p2.toNatClampNeg) (fun x2 => jn (fun (a3 : Int32) => some a3) (fun k4 => lp (fX7_bandWith_L1 t0 p1 p3 p4 M x2 k4) FU (0, 0)))))
set_option maxRecDepth 100000 in
set_option maxHeartbeats 4000000 in
theorem c_X7_bandWith {Ω : Wd} (l : Launch) (hO : OkW Ω) (hX : LX Ω) {t0 : Nat} (ht0 : isS t0) (M : Mem) (p1 : Int32) (p2 : Int32) (p3 : Int32) (p4 : Int32) : ∀ r, fX7_bandWith M t0 p1 p2 p3 p4 = some r → Ct l yX7_bandWith (.code yX7_bandWith cX7_bandWith 10 (some .int)) 2 46 Ω [.ref (wA Ω 470), .ref (wA Ω t0), .int p1, .int p2, .int p3, .int p4] M ((cpI M) r) := by
  refine ofG [(0, .ref (wA Ω 470)), (1, .ref (wA Ω t0)), (2, .int p1), (3, .int p2), (4, .int p3), (5, .int p4)] hO (by decide) rfl (Nat.le_of_ble_eq_true rfl) rfl ?_
  intro p e s m args below meth c
  unfold fX7_bandWith
  refine g_aload_n 1 rfl rfl 1 rfl dX7_bandWith_0 ?_
  refine w_getR (lx_S hX ht0) rfl in_X6 4 (by decide) wf_X7_21 (t0 + 1) rfl 4 rfl dX7_bandWith_1 ?_
  refine g_iload_n 2 rfl rfl 5 rfl dX7_bandWith_4 ?_
  refine w_aald (lx_S1 hX ht0) 6 rfl dX7_bandWith_5 ?_
  intro hn1
  refine g_astoreA [(6, .ref (wA Ω (t0 + 2 + 10 * p1.toNatClampNeg))), (0, .ref (wA Ω 470)), (1, .ref (wA Ω t0)), (2, .int p1), (3, .int p2), (4, .int p3), (5, .int p4)] 8 rfl dX7_bandWith_6 (by decide) rfl ?_
  refine g_aload 0 rfl 10 rfl dX7_bandWith_8 ?_
  refine w_getR (lx_J hX (isJ_S ht0 hn1)) rfl in_X2 9 (by decide) wf_X7_34 ((t0 + 2 + 10 * p1.toNatClampNeg) + 1) rfl 13 rfl dX7_bandWith_10 ?_
  refine g_iload_n 4 rfl rfl 14 rfl dX7_bandWith_13 ?_
  refine w_iald (lx_J1 hX (isJ_S ht0 hn1)) 15 rfl dX7_bandWith_14 ?_
  refine g_istore (fun x2 => [(7, .int x2), (6, .ref (wA Ω (t0 + 2 + 10 * p1.toNatClampNeg))), (0, .ref (wA Ω 470)), (1, .ref (wA Ω t0)), (2, .int p1), (3, .int p2), (4, .int p3), (5, .int p4)]) 17 rfl dX7_bandWith_15 (by decide) (fun _ => rfl) ?_
  intro x2
  refine g_iconst 0 18 rfl dX7_bandWith_17 (by decide) ?_
  refine g_istoreA [(8, .int 0), (7, .int x2), (6, .ref (wA Ω (t0 + 2 + 10 * p1.toNatClampNeg))), (0, .ref (wA Ω 470)), (1, .ref (wA Ω t0)), (2, .int p1), (3, .int p2), (4, .int p3), (5, .int p4)] 20 rfl dX7_bandWith_18 (by decide) rfl ?_
  refine g_iconst 0 21 rfl dX7_bandWith_20 (by decide) ?_
  refine g_istoreA [(9, .int 0), (8, .int 0), (7, .int x2), (6, .ref (wA Ω (t0 + 2 + 10 * p1.toNatClampNeg))), (0, .ref (wA Ω 470)), (1, .ref (wA Ω t0)), (2, .int p1), (3, .int p2), (4, .int p3), (5, .int p4)] 23 rfl dX7_bandWith_21 (by decide) rfl ?_
  refine g_join 82 (fun a3 => [(8, .int a3)]) (fun a3 => []) (fun a3 => M) ?_ ?_
  · intro a3
    refine g_iload 0 rfl 84 rfl dX7_bandWith_82 ?_
    exact p_iret rfl dX7_bandWith_84
  · intro k4 hk4
    refine g_sub [(0, .ref (wA Ω 470)), (1, .ref (wA Ω t0)), (4, .int p3), (5, .int p4), (6, .ref (wA Ω (t0 + 2 + 10 * p1.toNatClampNeg))), (7, .int x2), (8, .int 0), (9, .int 0)] [4, 5, 8, 9, 3, 2, 1, 0] rfl ?_
    refine g_loop 23 (fun a5 => [(0, .ref (wA Ω 470)), (1, .ref (wA Ω t0)), (4, .int p3), (5, .int p4), (6, .ref (wA Ω (t0 + 2 + 10 * p1.toNatClampNeg))), (7, .int x2), (8, .int a5.1), (9, .int a5.2)]) (fun _ => []) (fun a5 => M) ?_ FU (0, 0)
    intro k6 hk6 a5
    unfold fX7_bandWith_L1
    refine g_iload 7 rfl 25 rfl dX7_bandWith_23 ?_
    refine g_iload 3 rfl 27 rfl dX7_bandWith_25 ?_
    refine g_icmp_ge 82 (by decide) 30 rfl dX7_bandWith_27 ?_ ?_
    · refine g_sub [(8, .int a5.1)] [6] rfl ?_
      exact hk4 a5.1
    · refine g_iload 7 rfl 32 rfl dX7_bandWith_30 ?_
      refine g_bipush 120 34 rfl dX7_bandWith_32 (by decide) ?_
      refine g_icmp_ge 82 (by decide) 37 rfl dX7_bandWith_34 ?_ ?_
      · refine g_sub [(8, .int a5.1)] [6] rfl ?_
        exact hk4 a5.1
      · refine g_iload 6 rfl 39 rfl dX7_bandWith_37 ?_
        refine g_aload 4 rfl 41 rfl dX7_bandWith_39 ?_
        refine g_aload 4 rfl 43 rfl dX7_bandWith_41 ?_
        refine w_get (lx_J hX (isJ_S ht0 hn1)) rfl in_X2 3 (by decide) wf_X7_31 rfl 46 rfl dX7_bandWith_43 ?_
        refine g_iload 5 rfl 48 rfl dX7_bandWith_46 ?_
        refine g_aload_n 0 rfl rfl 49 rfl dX7_bandWith_48 ?_
        refine w_getR (lx_T hX) rfl in_X7 0 (by decide) wf_X7_9 471 rfl 52 rfl dX7_bandWith_49 ?_
        refine g_iload 7 rfl 54 rfl dX7_bandWith_52 ?_
        refine w_iald (lx_T1 hX) 55 rfl dX7_bandWith_54 ?_
        refine g_iload 2 rfl 57 rfl dX7_bandWith_55 ?_
        refine g_iadd 58 rfl dX7_bandWith_57 ?_
        refine g_aload_n 1 rfl rfl 59 rfl dX7_bandWith_58 ?_
        refine w_get (lx_S hX ht0) rfl in_X6 0 (by decide) wf_X7_60 rfl 62 rfl dX7_bandWith_59 ?_
        refine p_cVI (t0 + 2 + 10 * p1.toNatClampNeg) [.int (M (t0 + 2 + 10 * p1.toNatClampNeg) 3), .int x2, .int ((M 471 a5.2.toNatClampNeg) + p3), .int (M t0 0)] [.int a5.1] (c_X2_isOn l hO hX (isJ_S ht0 hn1) M (M (t0 + 2 + 10 * p1.toNatClampNeg) 3) x2 ((M 471 a5.2.toNatClampNeg) + p3) (M t0 0)) dX7_bandWith_62 uv_X7_89 rfl yk_X2_isOn ⟨by decide, by decide⟩ (lx_J hX (isJ_S ht0 hn1)).1 (lx_J hX (isJ_S ht0 hn1)).2 rfl (Nat.le_of_ble_eq_true rfl) rfl 65 rfl ?_
        intro x7
        refine g_join 73 (fun a8 => [(0, .ref (wA Ω 470)), (1, .ref (wA Ω t0)), (4, .int p3), (5, .int p4), (6, .ref (wA Ω (t0 + 2 + 10 * p1.toNatClampNeg))), (7, .int x2), (9, .int a5.2)]) (fun a8 => [.int a8, .int a5.1]) (fun a8 => M) ?_ ?_
        · intro a8
          refine g_iadd 74 rfl dX7_bandWith_73 ?_
          refine g_istore (fun x10 => [(8, .int x10), (0, .ref (wA Ω 470)), (1, .ref (wA Ω t0)), (4, .int p3), (5, .int p4), (6, .ref (wA Ω (t0 + 2 + 10 * p1.toNatClampNeg))), (7, .int x2), (9, .int a5.2)]) 76 rfl dX7_bandWith_74 (by decide) (fun _ => rfl) ?_
          intro x10
          refine g_iinc 7 rfl 1 (by decide) (fun x11 => [(9, .int x11), (8, .int x10), (0, .ref (wA Ω 470)), (1, .ref (wA Ω t0)), (4, .int p3), (5, .int p4), (6, .ref (wA Ω (t0 + 2 + 10 * p1.toNatClampNeg))), (7, .int x2)]) 79 rfl dX7_bandWith_76 (by decide) (fun _ => rfl) ?_
          intro x11
          refine g_goto 23 (by decide) dX7_bandWith_79 ?_
          refine g_sub [(0, .ref (wA Ω 470)), (1, .ref (wA Ω t0)), (4, .int p3), (5, .int p4), (6, .ref (wA Ω (t0 + 2 + 10 * p1.toNatClampNeg))), (7, .int x2), (8, .int x10), (9, .int x11)] [2, 3, 4, 5, 6, 7, 1, 0] rfl ?_
          exact hk6 (x10, x11)
        · intro k9 hk9
          refine g_if_eq 72 (by decide) 68 rfl dX7_bandWith_65 ?_ ?_
          · refine g_iconst 0 73 rfl dX7_bandWith_72 (by decide) ?_
            refine g_sub [(0, .ref (wA Ω 470)), (1, .ref (wA Ω t0)), (4, .int p3), (5, .int p4), (6, .ref (wA Ω (t0 + 2 + 10 * p1.toNatClampNeg))), (7, .int x2), (9, .int a5.2)] [0, 1, 2, 3, 4, 5, 7] rfl ?_
            exact hk9 0
          · refine g_iconst 1 69 rfl dX7_bandWith_68 (by decide) ?_
            refine g_goto 73 (by decide) dX7_bandWith_69 ?_
            refine g_sub [(0, .ref (wA Ω 470)), (1, .ref (wA Ω t0)), (4, .int p3), (5, .int p4), (6, .ref (wA Ω (t0 + 2 + 10 * p1.toNatClampNeg))), (7, .int x2), (9, .int a5.2)] [0, 1, 2, 3, 4, 5, 7] rfl ?_
            exact hk9 1
def fX3_divide_L1 (j0 : Nat) (k2 : Mem → Option (Unit × Mem)) (k5 : (Int32 × Mem) → Option (Unit × Mem)) (k8 : (Int32 × Mem) → Option (Unit × Mem)) (a7 : Int32 × Mem) : Option (Unit × Mem) := if a7.2 j0 2 < a7.1 then (k2 a7.2) else (cl (fX3_isPlaced j0 8 a7.2 0 0 a7.1) (fun x9 M10 => if x9 = 0 then (bnd (a7.1 + 1) (fun x11 => k8 (x11, M10))) else (k5 (a7.1, M10))))
def fX3_divide (M : Mem) (j0 : Nat) : Option (Unit × Mem) := jn (fun (a1 : Mem) => bnd (mset a1 465 0 0) (fun M3 => some ((), M3))) (fun k2 => jn (fun (a4 : Int32 × Mem) => bnd (mset a4.2 465 0 a4.1) (fun M6 => some ((), M6))) (fun k5 => lp (fX3_divide_L1 j0 k2 k5) FU (1, M)))
set_option maxRecDepth 100000 in
set_option maxHeartbeats 4000000 in
theorem c_X3_divide {Ω : Wd} (l : Launch) (hO : OkW Ω) (hX : LX Ω) {j0 : Nat} (hj0 : isJ j0) (M : Mem)  : ∀ r, fX3_divide M j0 = some r → Ct l yX3_divide (.code yX3_divide cX3_divide 3 none) 12 301 Ω [.ref (wA Ω 465), .ref (wA Ω j0)] M (cvV r) := by
  refine ofG [(0, .ref (wA Ω 465)), (1, .ref (wA Ω j0))] hO (by decide) rfl (Nat.le_of_ble_eq_true rfl) rfl ?_
  intro p e s m args below meth c
  unfold fX3_divide
  refine g_iconst 1 1 rfl dX3_divide_0 (by decide) ?_
  refine g_istore_nA [(2, .int 1), (0, .ref (wA Ω 465)), (1, .ref (wA Ω j0))] rfl 2 rfl dX3_divide_1 (by decide) rfl ?_
  refine g_join 36 (fun a1 => [(0, .ref (wA Ω 465))]) (fun a1 => []) (fun a1 => a1) ?_ ?_
  · intro a1
    refine g_aload_n 0 rfl rfl 37 rfl dX3_divide_36 ?_
    refine g_iconst 0 38 rfl dX3_divide_37 (by decide) ?_
    refine w_put (lx_P hX) rfl in_X3 0 (by decide) wf_X3_34 tyX3 tyX3_ok nmX3 rfl rfl rfl rfl 41 rfl dX3_divide_38 ?_
    intro M3
    exact g_vret rfl dX3_divide_41
  · intro k2 hk2
    refine g_join 24 (fun a4 => [(0, .ref (wA Ω 465)), (2, .int a4.1)]) (fun a4 => []) (fun a4 => a4.2) ?_ ?_
    · intro a4
      refine g_aload_n 0 rfl rfl 25 rfl dX3_divide_24 ?_
      refine g_iload_n 1 rfl rfl 26 rfl dX3_divide_25 ?_
      refine w_put (lx_P hX) rfl in_X3 0 (by decide) wf_X3_34 tyX3 tyX3_ok nmX3 rfl rfl rfl rfl 29 rfl dX3_divide_26 ?_
      intro M6
      exact g_vret rfl dX3_divide_29
    · intro k5 hk5
      refine g_sub [(0, .ref (wA Ω 465)), (1, .ref (wA Ω j0)), (2, .int 1)] [1, 2, 0] rfl ?_
      refine g_loop 2 (fun a7 => [(0, .ref (wA Ω 465)), (1, .ref (wA Ω j0)), (2, .int a7.1)]) (fun _ => []) (fun a7 => a7.2) ?_ FU (1, M)
      intro k8 hk8 a7
      unfold fX3_divide_L1
      refine g_iload_n 2 rfl rfl 3 rfl dX3_divide_2 ?_
      refine g_aload_n 1 rfl rfl 4 rfl dX3_divide_3 ?_
      refine w_get (lx_J hX hj0) rfl in_X2 2 (by decide) wf_X3_24 rfl 7 rfl dX3_divide_4 ?_
      refine g_icmp_gt 36 (by decide) 10 rfl dX3_divide_7 ?_ ?_
      · refine g_sub [(0, .ref (wA Ω 465))] [0] rfl ?_
        exact hk2 a7.2
      · refine g_aload_n 1 rfl rfl 11 rfl dX3_divide_10 ?_
        refine g_aload_n 0 rfl rfl 12 rfl dX3_divide_11 ?_
        refine w_getR (lx_P hX) rfl in_X3 1 (by decide) wf_X3_9 466 rfl 15 rfl dX3_divide_12 ?_
        refine g_iconst 0 16 rfl dX3_divide_15 (by decide) ?_
        refine g_iconst 0 17 rfl dX3_divide_16 (by decide) ?_
        refine g_iload_n 2 rfl rfl 18 rfl dX3_divide_17 ?_
        refine g_cSI [.ref (wA Ω j0), .ref (wA Ω 466), .int 0, .int 0, .int a7.1] [] (c_X3_isPlaced l hO hX hj0 8 a7.2 0 0 a7.1) dX3_divide_18 us_X3_30 rfl yk_X3_isPlaced ⟨by decide, by decide⟩ (Nat.le_of_ble_eq_true rfl) rfl 21 rfl ?_
        intro x9 M10
        refine g_if_eq 30 (by decide) 24 rfl dX3_divide_21 ?_ ?_
        · refine g_iinc 2 rfl 1 (by decide) (fun x11 => [(2, .int x11), (0, .ref (wA Ω 465)), (1, .ref (wA Ω j0))]) 33 rfl dX3_divide_30 (by decide) (fun _ => rfl) ?_
          intro x11
          refine g_goto 2 (by decide) dX3_divide_33 ?_
          refine g_sub [(0, .ref (wA Ω 465)), (1, .ref (wA Ω j0)), (2, .int x11)] [1, 2, 0] rfl ?_
          exact hk8 (x11, M10)
        · refine g_sub [(0, .ref (wA Ω 465)), (2, .int a7.1)] [0, 2] rfl ?_
          exact hk5 (a7.1, M10)
def fX3_measure_L1 (j0 : Nat) (k6 : (Int32 × Mem) → Option (Unit × Mem)) (a5 : Int32 × Mem) : Option (Unit × Mem) := if a5.2 j0 2 ≤ a5.1 then (some ((), a5.2)) else (grd (inb a5.1 6) (bnd (a5.2 466 a5.1.toNatClampNeg) (fun x7 => jn (fun (a8 : Int32) => grd (inb x7 6) (grd (inb a5.1 6) (clp (fJ9_max_7cf53 a5.2 (a5.2 468 x7.toNatClampNeg) (a5.2 (j0 + 3) a5.1.toNatClampNeg)) (fun x10 => grd (inb x7 6) (bnd (mset a5.2 468 x7.toNatClampNeg x10) (fun M11 => grd (inb x7 6) (clp (fX3_clearanceTo M11 j0 a5.1 a8) (fun x12 => clp (fJ9_max_7cf53 M11 (M11 469 x7.toNatClampNeg) x12) (fun x13 => grd (inb x7 6) (bnd (mset M11 469 x7.toNatClampNeg x13) (fun M14 => bnd (a5.1 + 1) (fun x15 => k6 (x15, M14))))))))))))) (fun k9 => if a5.2 465 0 ≤ x7 + 1 then (k9 0) else (k9 (x7 + 1))))))
def fX3_measure (M : Mem) (j0 : Nat) : Option (Unit × Mem) := cl (fJ7_fill_53178 M 468 6 0) (fun u1 M2 => cl (fJ7_fill_53178 M2 469 6 0) (fun u3 M4 => lp (fX3_measure_L1 j0) FU (0, M4)))
set_option maxRecDepth 100000 in
set_option maxHeartbeats 4000000 in
theorem c_X3_measure {Ω : Wd} (l : Launch) (hO : OkW Ω) (hX : LX Ω) {j0 : Nat} (hj0 : isJ j0) (M : Mem)  : ∀ r, fX3_measure M j0 = some r → Ct l yX3_measure (.code yX3_measure cX3_measure 5 none) 2 47 Ω [.ref (wA Ω 465), .ref (wA Ω j0)] M (cvV r) := by
  refine ofG [(0, .ref (wA Ω 465)), (1, .ref (wA Ω j0))] hO (by decide) rfl (Nat.le_of_ble_eq_true rfl) rfl ?_
  intro p e s m args below meth c
  unfold fX3_measure
  refine g_aload_n 0 rfl rfl 1 rfl dX3_measure_0 ?_
  refine w_getR (lx_P hX) rfl in_X3 3 (by decide) wf_X3_18 468 rfl 4 rfl dX3_measure_1 ?_
  refine g_iconst 0 5 rfl dX3_measure_4 (by decide) ?_
  refine g_cTV [.ref (wA Ω 468), .int 0] [] (c_J7_fill_53178 l hO (lx_P3 hX) M 0) dX3_measure_5 ut_X3_69 yk_J7_fill_53178 ⟨by decide, by decide⟩ (Nat.le_of_ble_eq_true rfl) rfl 8 rfl ?_
  intro u1 M2
  refine g_aload_n 0 rfl rfl 9 rfl dX3_measure_8 ?_
  refine w_getR (lx_P hX) rfl in_X3 4 (by decide) wf_X3_21 469 rfl 12 rfl dX3_measure_9 ?_
  refine g_iconst 0 13 rfl dX3_measure_12 (by decide) ?_
  refine g_cTV [.ref (wA Ω 469), .int 0] [] (c_J7_fill_53178 l hO (lx_P4 hX) M2 0) dX3_measure_13 ut_X3_69 yk_J7_fill_53178 ⟨by decide, by decide⟩ (Nat.le_of_ble_eq_true rfl) rfl 16 rfl ?_
  intro u3 M4
  refine g_iconst 0 17 rfl dX3_measure_16 (by decide) ?_
  refine g_istore_nA [(2, .int 0), (0, .ref (wA Ω 465)), (1, .ref (wA Ω j0))] rfl 18 rfl dX3_measure_17 (by decide) rfl ?_
  refine g_sub [(0, .ref (wA Ω 465)), (1, .ref (wA Ω j0)), (2, .int 0)] [1, 2, 0] rfl ?_
  refine g_loop 18 (fun a5 => [(0, .ref (wA Ω 465)), (1, .ref (wA Ω j0)), (2, .int a5.1)]) (fun _ => []) (fun a5 => a5.2) ?_ FU (0, M4)
  intro k6 hk6 a5
  unfold fX3_measure_L1
  refine g_iload_n 2 rfl rfl 19 rfl dX3_measure_18 ?_
  refine g_aload_n 1 rfl rfl 20 rfl dX3_measure_19 ?_
  refine w_get (lx_J hX hj0) rfl in_X2 2 (by decide) wf_X3_24 rfl 23 rfl dX3_measure_20 ?_
  refine g_icmp_ge 102 (by decide) 26 rfl dX3_measure_23 ?_ ?_
  · exact g_vret rfl dX3_measure_102
  · refine g_aload_n 0 rfl rfl 27 rfl dX3_measure_26 ?_
    refine w_getR (lx_P hX) rfl in_X3 1 (by decide) wf_X3_9 466 rfl 30 rfl dX3_measure_27 ?_
    refine g_iload_n 2 rfl rfl 31 rfl dX3_measure_30 ?_
    refine w_iald (lx_P1 hX) 32 rfl dX3_measure_31 ?_
    refine g_istore_n (fun x7 => [(3, .int x7), (0, .ref (wA Ω 465)), (1, .ref (wA Ω j0)), (2, .int a5.1)]) rfl 33 rfl dX3_measure_32 (by decide) (fun _ => rfl) ?_
    intro x7
    refine g_iload_n 0 rfl rfl 34 rfl dX3_measure_33 ?_
    refine g_iconst 1 35 rfl dX3_measure_34 (by decide) ?_
    refine g_iadd 36 rfl dX3_measure_35 ?_
    refine g_aload_n 1 rfl rfl 37 rfl dX3_measure_36 ?_
    refine w_get (lx_P hX) rfl in_X3 0 (by decide) wf_X3_34 rfl 40 rfl dX3_measure_37 ?_
    refine g_join 50 (fun a8 => [(0, .ref (wA Ω 465)), (1, .ref (wA Ω j0)), (2, .int a5.1), (3, .int x7)]) (fun a8 => [.int a8]) (fun a8 => a5.2) ?_ ?_
    · intro a8
      refine g_istoreA [(4, .int a8), (0, .ref (wA Ω 465)), (1, .ref (wA Ω j0)), (2, .int a5.1), (3, .int x7)] 52 rfl dX3_measure_50 (by decide) rfl ?_
      refine g_aload_n 1 rfl rfl 53 rfl dX3_measure_52 ?_
      refine w_getR (lx_P hX) rfl in_X3 3 (by decide) wf_X3_18 468 rfl 56 rfl dX3_measure_53 ?_
      refine g_iload_n 4 rfl rfl 57 rfl dX3_measure_56 ?_
      refine g_aload_n 1 rfl rfl 58 rfl dX3_measure_57 ?_
      refine w_getR (lx_P hX) rfl in_X3 3 (by decide) wf_X3_18 468 rfl 61 rfl dX3_measure_58 ?_
      refine g_iload_n 4 rfl rfl 62 rfl dX3_measure_61 ?_
      refine w_iald (lx_P3 hX) 63 rfl dX3_measure_62 ?_
      refine g_aload_n 2 rfl rfl 64 rfl dX3_measure_63 ?_
      refine w_getR (lx_J hX hj0) rfl in_X2 11 (by decide) wf_X3_75 (j0 + 3) rfl 67 rfl dX3_measure_64 ?_
      refine g_iload_n 3 rfl rfl 68 rfl dX3_measure_67 ?_
      refine w_iald (lx_J3 hX hj0) 69 rfl dX3_measure_68 ?_
      refine p_cTI [.int (a5.2 468 x7.toNatClampNeg), .int (a5.2 (j0 + 3) a5.1.toNatClampNeg)] [.int x7, .ref (wA Ω 468)] (c_J9_max_7cf53 l hO a5.2 (a5.2 468 x7.toNatClampNeg) (a5.2 (j0 + 3) a5.1.toNatClampNeg)) dX3_measure_69 ut_X3_41 yk_J9_max_7cf53 ⟨by decide, by decide⟩ (Nat.le_of_ble_eq_true rfl) rfl 72 rfl ?_
      intro x10
      refine w_iast (lx_P3 hX) 73 rfl dX3_measure_72 ?_
      intro M11
      refine g_aload_n 1 rfl rfl 74 rfl dX3_measure_73 ?_
      refine w_getR (lx_P hX) rfl in_X3 4 (by decide) wf_X3_21 469 rfl 77 rfl dX3_measure_74 ?_
      refine g_iload_n 4 rfl rfl 78 rfl dX3_measure_77 ?_
      refine g_aload_n 1 rfl rfl 79 rfl dX3_measure_78 ?_
      refine w_getR (lx_P hX) rfl in_X3 4 (by decide) wf_X3_21 469 rfl 82 rfl dX3_measure_79 ?_
      refine g_iload_n 4 rfl rfl 83 rfl dX3_measure_82 ?_
      refine w_iald (lx_P4 hX) 84 rfl dX3_measure_83 ?_
      refine g_aload_n 1 rfl rfl 85 rfl dX3_measure_84 ?_
      refine g_aload_n 2 rfl rfl 86 rfl dX3_measure_85 ?_
      refine g_iload_n 3 rfl rfl 87 rfl dX3_measure_86 ?_
      refine g_iload 0 rfl 89 rfl dX3_measure_87 ?_
      refine p_cVI 465 [.ref (wA Ω j0), .int a5.1, .int a8] [.int (M11 469 x7.toNatClampNeg), .int x7, .ref (wA Ω 469)] (c_X3_clearanceTo l hO hX hj0 M11 a5.1 a8) dX3_measure_89 uv_X3_78 rfl yk_X3_clearanceTo ⟨by decide, by decide⟩ (lx_P hX).1 (lx_P hX).2 rfl (Nat.le_of_ble_eq_true rfl) rfl 92 rfl ?_
      intro x12
      refine p_cTI [.int (M11 469 x7.toNatClampNeg), .int x12] [.int x7, .ref (wA Ω 469)] (c_J9_max_7cf53 l hO M11 (M11 469 x7.toNatClampNeg) x12) dX3_measure_92 ut_X3_41 yk_J9_max_7cf53 ⟨by decide, by decide⟩ (Nat.le_of_ble_eq_true rfl) rfl 95 rfl ?_
      intro x13
      refine w_iast (lx_P4 hX) 96 rfl dX3_measure_95 ?_
      intro M14
      refine g_iinc 3 rfl 1 (by decide) (fun x15 => [(2, .int x15), (4, .int a8), (0, .ref (wA Ω 465)), (1, .ref (wA Ω j0)), (3, .int x7)]) 99 rfl dX3_measure_96 (by decide) (fun _ => rfl) ?_
      intro x15
      refine g_goto 18 (by decide) dX3_measure_99 ?_
      refine g_sub [(0, .ref (wA Ω 465)), (1, .ref (wA Ω j0)), (2, .int x15)] [2, 3, 0] rfl ?_
      exact hk6 (x15, M14)
    · intro k9 hk9
      refine g_icmp_ge 49 (by decide) 43 rfl dX3_measure_40 ?_ ?_
      · refine g_iconst 0 50 rfl dX3_measure_49 (by decide) ?_
        refine g_sub [(0, .ref (wA Ω 465)), (1, .ref (wA Ω j0)), (2, .int a5.1), (3, .int x7)] [1, 2, 3, 0] rfl ?_
        exact hk9 0
      · refine g_iload_n 0 rfl rfl 44 rfl dX3_measure_43 ?_
        refine g_iconst 1 45 rfl dX3_measure_44 (by decide) ?_
        refine g_iadd 46 rfl dX3_measure_45 ?_
        refine g_goto 50 (by decide) dX3_measure_46 ?_
        refine g_sub [(0, .ref (wA Ω 465)), (1, .ref (wA Ω j0)), (2, .int a5.1), (3, .int x7)] [1, 2, 3, 0] rfl ?_
        exact hk9 (x7 + 1)
def fX7_bandOf_L1 (t0 : Nat) (p1 : Int32) (M : Mem) (k2 : (Int32 × Int32) → Option Int32) (a1 : Int32 × Int32) : Option Int32 := if M t0 0 ≤ a1.2 then (some a1.1) else (clp (fX7_isFree M t0 p1 a1.2 (-1)) (fun x3 => jn (fun (a4 : Int32) => bnd (a1.1 + a4) (fun x6 => bnd (a1.2 + 1) (fun x7 => k2 (x6, x7)))) (fun k5 => if x3 = 0 then (k5 0) else (k5 1))))
def fX7_bandOf (M : Mem) (t0 : Nat) (p1 : Int32) : Option Int32 := lp (fX7_bandOf_L1 t0 p1 M) FU (0, 0)
set_option maxRecDepth 100000 in
set_option maxHeartbeats 4000000 in
theorem c_X7_bandOf {Ω : Wd} (l : Launch) (hO : OkW Ω) (hX : LX Ω) {t0 : Nat} (ht0 : isS t0) (M : Mem) (p1 : Int32) : ∀ r, fX7_bandOf M t0 p1 = some r → Ct l yX7_bandOf (.code yX7_bandOf cX7_bandOf 5 (some .int)) 4 100 Ω [.ref (wA Ω 470), .ref (wA Ω t0), .int p1] M ((cpI M) r) := by
  refine ofG [(0, .ref (wA Ω 470)), (1, .ref (wA Ω t0)), (2, .int p1)] hO (by decide) rfl (Nat.le_of_ble_eq_true rfl) rfl ?_
  intro p e s m args below meth c
  unfold fX7_bandOf
  refine g_iconst 0 1 rfl dX7_bandOf_0 (by decide) ?_
  refine g_istore_nA [(3, .int 0), (0, .ref (wA Ω 470)), (1, .ref (wA Ω t0)), (2, .int p1)] rfl 2 rfl dX7_bandOf_1 (by decide) rfl ?_
  refine g_iconst 0 3 rfl dX7_bandOf_2 (by decide) ?_
  refine g_istoreA [(4, .int 0), (3, .int 0), (0, .ref (wA Ω 470)), (1, .ref (wA Ω t0)), (2, .int p1)] 5 rfl dX7_bandOf_3 (by decide) rfl ?_
  refine g_sub [(0, .ref (wA Ω 470)), (1, .ref (wA Ω t0)), (2, .int p1), (3, .int 0), (4, .int 0)] [2, 3, 4, 1, 0] rfl ?_
  refine g_loop 5 (fun a1 => [(0, .ref (wA Ω 470)), (1, .ref (wA Ω t0)), (2, .int p1), (3, .int a1.1), (4, .int a1.2)]) (fun _ => []) (fun a1 => M) ?_ FU (0, 0)
  intro k2 hk2 a1
  unfold fX7_bandOf_L1
  refine g_iload 4 rfl 7 rfl dX7_bandOf_5 ?_
  refine g_aload_n 1 rfl rfl 8 rfl dX7_bandOf_7 ?_
  refine w_get (lx_S hX ht0) rfl in_X6 0 (by decide) wf_X7_60 rfl 11 rfl dX7_bandOf_8 ?_
  refine g_icmp_ge 40 (by decide) 14 rfl dX7_bandOf_11 ?_ ?_
  · refine g_iload_n 3 rfl rfl 41 rfl dX7_bandOf_40 ?_
    exact p_iret rfl dX7_bandOf_41
  · refine g_iload_n 3 rfl rfl 15 rfl dX7_bandOf_14 ?_
    refine g_aload_n 0 rfl rfl 16 rfl dX7_bandOf_15 ?_
    refine g_aload_n 1 rfl rfl 17 rfl dX7_bandOf_16 ?_
    refine g_iload_n 2 rfl rfl 18 rfl dX7_bandOf_17 ?_
    refine g_iload 4 rfl 20 rfl dX7_bandOf_18 ?_
    refine g_iconst (-1) 21 rfl dX7_bandOf_20 (by decide) ?_
    refine p_cVI 470 [.ref (wA Ω t0), .int p1, .int a1.2, .int (-1)] [.int a1.1] (c_X7_isFree l hO hX ht0 M p1 a1.2 (-1)) dX7_bandOf_21 uv_X7_78 rfl yk_X7_isFree ⟨by decide, by decide⟩ (lx_T hX).1 (lx_T hX).2 rfl (Nat.le_of_ble_eq_true rfl) rfl 24 rfl ?_
    intro x3
    refine g_join 32 (fun a4 => [(0, .ref (wA Ω 470)), (1, .ref (wA Ω t0)), (2, .int p1), (4, .int a1.2)]) (fun a4 => [.int a4, .int a1.1]) (fun a4 => M) ?_ ?_
    · intro a4
      refine g_iadd 33 rfl dX7_bandOf_32 ?_
      refine g_istore_n (fun x6 => [(3, .int x6), (0, .ref (wA Ω 470)), (1, .ref (wA Ω t0)), (2, .int p1), (4, .int a1.2)]) rfl 34 rfl dX7_bandOf_33 (by decide) (fun _ => rfl) ?_
      intro x6
      refine g_iinc 4 rfl 1 (by decide) (fun x7 => [(4, .int x7), (3, .int x6), (0, .ref (wA Ω 470)), (1, .ref (wA Ω t0)), (2, .int p1)]) 37 rfl dX7_bandOf_34 (by decide) (fun _ => rfl) ?_
      intro x7
      refine g_goto 5 (by decide) dX7_bandOf_37 ?_
      refine g_sub [(0, .ref (wA Ω 470)), (1, .ref (wA Ω t0)), (2, .int p1), (3, .int x6), (4, .int x7)] [2, 3, 4, 1, 0] rfl ?_
      exact hk2 (x6, x7)
    · intro k5 hk5
      refine g_if_eq 31 (by decide) 27 rfl dX7_bandOf_24 ?_ ?_
      · refine g_iconst 0 32 rfl dX7_bandOf_31 (by decide) ?_
        refine g_sub [(0, .ref (wA Ω 470)), (1, .ref (wA Ω t0)), (2, .int p1), (4, .int a1.2)] [0, 1, 2, 4] rfl ?_
        exact hk5 0
      · refine g_iconst 1 28 rfl dX7_bandOf_27 (by decide) ?_
        refine g_goto 32 (by decide) dX7_bandOf_28 ?_
        refine g_sub [(0, .ref (wA Ω 470)), (1, .ref (wA Ω t0)), (2, .int p1), (4, .int a1.2)] [0, 1, 2, 4] rfl ?_
        exact hk5 1
def fX7_bestOffsetFor_L1 (t0 : Nat) (p1 : Int32) (p2 : Int32) (a1 : Int32 × Mem) (x3 : Int32) (k5 : (Int32 × Int32 × Int32) → Option (Int32 × Mem)) (a4 : Int32 × Int32 × Int32) : Option (Int32 × Mem) := if a1.2 t0 0 ≤ a4.2.2 then (some (a4.1, a1.2)) else (clp (fX7_bandWith a1.2 t0 p1 p2 (x3 - a4.2.2) a1.1) (fun x6 => jn (fun (a7 : Int32 × Int32) => bnd (a4.2.2 + 1) (fun x9 => k5 (a7.1, a7.2, x9))) (fun k8 => if x6 ≤ a4.2.1 then (k8 (a4.1, a4.2.1)) else (k8 (a4.2.2, x6)))))
def fX7_bestOffsetFor_L2 (t0 : Nat) (p1 : Int32) (p2 : Int32) (k2 : (Int32 × Mem) → Option (Int32 × Mem)) (k11 : (Int32 × Int32 × Mem) → Option (Int32 × Mem)) (a10 : Int32 × Int32 × Mem) : Option (Int32 × Mem) := if a10.2.2 t0 0 ≤ a10.2.1 then (k2 (a10.1, a10.2.2)) else (if 120 ≤ a10.2.1 then (k2 (a10.1, a10.2.2)) else (clp (fX7_isFree a10.2.2 t0 p2 a10.2.1 p1) (fun x12 => jn (fun (a13 : Int32 × Mem) => bnd (a10.2.1 + 1) (fun x15 => k11 (a13.1, x15, a13.2))) (fun k14 => if x12 = 0 then (k14 (a10.1, a10.2.2)) else (grd (inb a10.1 120) (bnd (mset a10.2.2 471 a10.1.toNatClampNeg a10.2.1) (fun M16 => bnd (a10.1 + 1) (fun x17 => k14 (x17, M16)))))))))
def fX7_bestOffsetFor (M : Mem) (t0 : Nat) (p1 : Int32) (p2 : Int32) : Option (Int32 × Mem) := jn (fun (a1 : Int32 × Mem) => clp (fX7_secondsBefore a1.2 t0 p1 p2) (fun x3 => lp (fX7_bestOffsetFor_L1 t0 p1 p2 a1 x3) FU (0, 0, 0))) (fun k2 => lp (fX7_bestOffsetFor_L2 t0 p1 p2 k2) FU (0, 0, M))
set_option maxRecDepth 100000 in
set_option maxHeartbeats 4000000 in
theorem c_X7_bestOffsetFor {Ω : Wd} (l : Launch) (hO : OkW Ω) (hX : LX Ω) {t0 : Nat} (ht0 : isS t0) (M : Mem) (p1 : Int32) (p2 : Int32) : ∀ r, fX7_bestOffsetFor M t0 p1 p2 = some r → Ct l yX7_bestOffsetFor (.code yX7_bestOffsetFor cX7_bestOffsetFor 10 (some .int)) 4 100 Ω [.ref (wA Ω 470), .ref (wA Ω t0), .int p1, .int p2] M (cvI r) := by
  refine ofG [(0, .ref (wA Ω 470)), (1, .ref (wA Ω t0)), (2, .int p1), (3, .int p2)] hO (by decide) rfl (Nat.le_of_ble_eq_true rfl) rfl ?_
  intro p e s m args below meth c
  unfold fX7_bestOffsetFor
  refine g_iconst 0 1 rfl dX7_bestOffsetFor_0 (by decide) ?_
  refine g_istoreA [(4, .int 0), (0, .ref (wA Ω 470)), (1, .ref (wA Ω t0)), (2, .int p1), (3, .int p2)] 3 rfl dX7_bestOffsetFor_1 (by decide) rfl ?_
  refine g_iconst 0 4 rfl dX7_bestOffsetFor_3 (by decide) ?_
  refine g_istoreA [(5, .int 0), (4, .int 0), (0, .ref (wA Ω 470)), (1, .ref (wA Ω t0)), (2, .int p1), (3, .int p2)] 6 rfl dX7_bestOffsetFor_4 (by decide) rfl ?_
  refine g_join 52 (fun a1 => [(0, .ref (wA Ω 470)), (1, .ref (wA Ω t0)), (2, .int p1), (3, .int p2), (4, .int a1.1)]) (fun a1 => []) (fun a1 => a1.2) ?_ ?_
  · intro a1
    refine g_aload_n 0 rfl rfl 53 rfl dX7_bestOffsetFor_52 ?_
    refine g_aload_n 1 rfl rfl 54 rfl dX7_bestOffsetFor_53 ?_
    refine g_iload_n 2 rfl rfl 55 rfl dX7_bestOffsetFor_54 ?_
    refine g_iload_n 3 rfl rfl 56 rfl dX7_bestOffsetFor_55 ?_
    refine p_cVI 470 [.ref (wA Ω t0), .int p1, .int p2] [] (c_X7_secondsBefore l hO hX ht0 a1.2 p1 p2) dX7_bestOffsetFor_56 uv_X7_82 rfl yk_X7_secondsBefore ⟨by decide, by decide⟩ (lx_T hX).1 (lx_T hX).2 rfl (Nat.le_of_ble_eq_true rfl) rfl 59 rfl ?_
    intro x3
    refine g_istoreA [(5, .int x3), (0, .ref (wA Ω 470)), (1, .ref (wA Ω t0)), (2, .int p1), (3, .int p2), (4, .int a1.1)] 61 rfl dX7_bestOffsetFor_59 (by decide) rfl ?_
    refine g_iconst 0 62 rfl dX7_bestOffsetFor_61 (by decide) ?_
    refine g_istoreA [(6, .int 0), (5, .int x3), (0, .ref (wA Ω 470)), (1, .ref (wA Ω t0)), (2, .int p1), (3, .int p2), (4, .int a1.1)] 64 rfl dX7_bestOffsetFor_62 (by decide) rfl ?_
    refine g_iconst 0 65 rfl dX7_bestOffsetFor_64 (by decide) ?_
    refine g_istoreA [(7, .int 0), (6, .int 0), (5, .int x3), (0, .ref (wA Ω 470)), (1, .ref (wA Ω t0)), (2, .int p1), (3, .int p2), (4, .int a1.1)] 67 rfl dX7_bestOffsetFor_65 (by decide) rfl ?_
    refine g_iconst 0 68 rfl dX7_bestOffsetFor_67 (by decide) ?_
    refine g_istoreA [(8, .int 0), (7, .int 0), (6, .int 0), (5, .int x3), (0, .ref (wA Ω 470)), (1, .ref (wA Ω t0)), (2, .int p1), (3, .int p2), (4, .int a1.1)] 70 rfl dX7_bestOffsetFor_68 (by decide) rfl ?_
    refine g_sub [(0, .ref (wA Ω 470)), (1, .ref (wA Ω t0)), (2, .int p1), (3, .int p2), (4, .int a1.1), (5, .int x3), (6, .int 0), (7, .int 0), (8, .int 0)] [4, 5, 6, 7, 8, 3, 2, 1, 0] rfl ?_
    refine g_loop 70 (fun a4 => [(0, .ref (wA Ω 470)), (1, .ref (wA Ω t0)), (2, .int p1), (3, .int p2), (4, .int a1.1), (5, .int x3), (6, .int a4.1), (7, .int a4.2.1), (8, .int a4.2.2)]) (fun _ => []) (fun a4 => a1.2) ?_ FU (0, 0, 0)
    intro k5 hk5 a4
    unfold fX7_bestOffsetFor_L1
    refine g_iload 8 rfl 72 rfl dX7_bestOffsetFor_70 ?_
    refine g_aload_n 1 rfl rfl 73 rfl dX7_bestOffsetFor_72 ?_
    refine w_get (lx_S hX ht0) rfl in_X6 0 (by decide) wf_X7_60 rfl 76 rfl dX7_bestOffsetFor_73 ?_
    refine g_icmp_ge 116 (by decide) 79 rfl dX7_bestOffsetFor_76 ?_ ?_
    · refine g_iload 6 rfl 118 rfl dX7_bestOffsetFor_116 ?_
      exact g_iret rfl dX7_bestOffsetFor_118
    · refine g_aload_n 0 rfl rfl 80 rfl dX7_bestOffsetFor_79 ?_
      refine g_aload_n 1 rfl rfl 81 rfl dX7_bestOffsetFor_80 ?_
      refine g_iload_n 2 rfl rfl 82 rfl dX7_bestOffsetFor_81 ?_
      refine g_iload_n 3 rfl rfl 83 rfl dX7_bestOffsetFor_82 ?_
      refine g_iload 5 rfl 85 rfl dX7_bestOffsetFor_83 ?_
      refine g_iload 8 rfl 87 rfl dX7_bestOffsetFor_85 ?_
      refine g_isub 88 rfl dX7_bestOffsetFor_87 ?_
      refine g_iload 4 rfl 90 rfl dX7_bestOffsetFor_88 ?_
      refine p_cVI 470 [.ref (wA Ω t0), .int p1, .int p2, .int (x3 - a4.2.2), .int a1.1] [] (c_X7_bandWith l hO hX ht0 a1.2 p1 p2 (x3 - a4.2.2) a1.1) dX7_bestOffsetFor_90 uv_X7_85 rfl yk_X7_bandWith ⟨by decide, by decide⟩ (lx_T hX).1 (lx_T hX).2 rfl (Nat.le_of_ble_eq_true rfl) rfl 93 rfl ?_
      intro x6
      refine g_istoreA [(9, .int x6), (0, .ref (wA Ω 470)), (1, .ref (wA Ω t0)), (2, .int p1), (3, .int p2), (4, .int a1.1), (5, .int x3), (6, .int a4.1), (7, .int a4.2.1), (8, .int a4.2.2)] 95 rfl dX7_bestOffsetFor_93 (by decide) rfl ?_
      refine g_iload 0 rfl 97 rfl dX7_bestOffsetFor_95 ?_
      refine g_iload 8 rfl 99 rfl dX7_bestOffsetFor_97 ?_
      refine g_join 110 (fun a7 => [(0, .ref (wA Ω 470)), (1, .ref (wA Ω t0)), (2, .int p1), (3, .int p2), (4, .int a1.1), (5, .int x3), (6, .int a7.1), (7, .int a7.2), (8, .int a4.2.2)]) (fun a7 => []) (fun a7 => a1.2) ?_ ?_
      · intro a7
        refine g_iinc 8 rfl 1 (by decide) (fun x9 => [(8, .int x9), (0, .ref (wA Ω 470)), (1, .ref (wA Ω t0)), (2, .int p1), (3, .int p2), (4, .int a1.1), (5, .int x3), (6, .int a7.1), (7, .int a7.2)]) 113 rfl dX7_bestOffsetFor_110 (by decide) (fun _ => rfl) ?_
        intro x9
        refine g_goto 70 (by decide) dX7_bestOffsetFor_113 ?_
        refine g_sub [(0, .ref (wA Ω 470)), (1, .ref (wA Ω t0)), (2, .int p1), (3, .int p2), (4, .int a1.1), (5, .int x3), (6, .int a7.1), (7, .int a7.2), (8, .int x9)] [1, 2, 3, 4, 5, 6, 7, 8, 0] rfl ?_
        exact hk5 (a7.1, a7.2, x9)
      · intro k8 hk8
        refine g_icmp_le 110 (by decide) 102 rfl dX7_bestOffsetFor_99 ?_ ?_
        · refine g_sub [(0, .ref (wA Ω 470)), (1, .ref (wA Ω t0)), (2, .int p1), (3, .int p2), (4, .int a1.1), (5, .int x3), (6, .int a4.1), (7, .int a4.2.1), (8, .int a4.2.2)] [1, 2, 3, 4, 5, 6, 7, 8, 9] rfl ?_
          exact hk8 (a4.1, a4.2.1)
        · refine g_iload 0 rfl 104 rfl dX7_bestOffsetFor_102 ?_
          refine g_istoreA [(7, .int x6), (9, .int x6), (0, .ref (wA Ω 470)), (1, .ref (wA Ω t0)), (2, .int p1), (3, .int p2), (4, .int a1.1), (5, .int x3), (6, .int a4.1), (8, .int a4.2.2)] 106 rfl dX7_bestOffsetFor_104 (by decide) rfl ?_
          refine g_iload 9 rfl 108 rfl dX7_bestOffsetFor_106 ?_
          refine g_istoreA [(6, .int a4.2.2), (7, .int x6), (9, .int x6), (0, .ref (wA Ω 470)), (1, .ref (wA Ω t0)), (2, .int p1), (3, .int p2), (4, .int a1.1), (5, .int x3), (8, .int a4.2.2)] 110 rfl dX7_bestOffsetFor_108 (by decide) rfl ?_
          refine g_sub [(0, .ref (wA Ω 470)), (1, .ref (wA Ω t0)), (2, .int p1), (3, .int p2), (4, .int a1.1), (5, .int x3), (6, .int a4.2.2), (7, .int x6), (8, .int a4.2.2)] [3, 4, 5, 6, 7, 8, 0, 1, 9] rfl ?_
          exact hk8 (a4.2.2, x6)
  · intro k2 hk2
    refine g_sub [(0, .ref (wA Ω 470)), (1, .ref (wA Ω t0)), (2, .int p1), (3, .int p2), (4, .int 0), (5, .int 0)] [2, 3, 4, 5, 1, 0] rfl ?_
    refine g_loop 6 (fun a10 => [(0, .ref (wA Ω 470)), (1, .ref (wA Ω t0)), (2, .int p1), (3, .int p2), (4, .int a10.1), (5, .int a10.2.1)]) (fun _ => []) (fun a10 => a10.2.2) ?_ FU (0, 0, M)
    intro k11 hk11 a10
    unfold fX7_bestOffsetFor_L2
    refine g_iload 5 rfl 8 rfl dX7_bestOffsetFor_6 ?_
    refine g_aload_n 1 rfl rfl 9 rfl dX7_bestOffsetFor_8 ?_
    refine w_get (lx_S hX ht0) rfl in_X6 0 (by decide) wf_X7_60 rfl 12 rfl dX7_bestOffsetFor_9 ?_
    refine g_icmp_ge 52 (by decide) 15 rfl dX7_bestOffsetFor_12 ?_ ?_
    · refine g_sub [(0, .ref (wA Ω 470)), (1, .ref (wA Ω t0)), (2, .int p1), (3, .int p2), (4, .int a10.1)] [0, 1, 2, 3, 4] rfl ?_
      exact hk2 (a10.1, a10.2.2)
    · refine g_iload 5 rfl 17 rfl dX7_bestOffsetFor_15 ?_
      refine g_bipush 120 19 rfl dX7_bestOffsetFor_17 (by decide) ?_
      refine g_icmp_ge 52 (by decide) 22 rfl dX7_bestOffsetFor_19 ?_ ?_
      · refine g_sub [(0, .ref (wA Ω 470)), (1, .ref (wA Ω t0)), (2, .int p1), (3, .int p2), (4, .int a10.1)] [0, 1, 2, 3, 4] rfl ?_
        exact hk2 (a10.1, a10.2.2)
      · refine g_aload_n 0 rfl rfl 23 rfl dX7_bestOffsetFor_22 ?_
        refine g_aload_n 1 rfl rfl 24 rfl dX7_bestOffsetFor_23 ?_
        refine g_iload_n 3 rfl rfl 25 rfl dX7_bestOffsetFor_24 ?_
        refine g_iload 5 rfl 27 rfl dX7_bestOffsetFor_25 ?_
        refine g_iload_n 2 rfl rfl 28 rfl dX7_bestOffsetFor_27 ?_
        refine p_cVI 470 [.ref (wA Ω t0), .int p2, .int a10.2.1, .int p1] [] (c_X7_isFree l hO hX ht0 a10.2.2 p2 a10.2.1 p1) dX7_bestOffsetFor_28 uv_X7_78 rfl yk_X7_isFree ⟨by decide, by decide⟩ (lx_T hX).1 (lx_T hX).2 rfl (Nat.le_of_ble_eq_true rfl) rfl 31 rfl ?_
        intro x12
        refine g_join 46 (fun a13 => [(0, .ref (wA Ω 470)), (1, .ref (wA Ω t0)), (2, .int p1), (3, .int p2), (4, .int a13.1), (5, .int a10.2.1)]) (fun a13 => []) (fun a13 => a13.2) ?_ ?_
        · intro a13
          refine g_iinc 5 rfl 1 (by decide) (fun x15 => [(5, .int x15), (0, .ref (wA Ω 470)), (1, .ref (wA Ω t0)), (2, .int p1), (3, .int p2), (4, .int a13.1)]) 49 rfl dX7_bestOffsetFor_46 (by decide) (fun _ => rfl) ?_
          intro x15
          refine g_goto 6 (by decide) dX7_bestOffsetFor_49 ?_
          refine g_sub [(0, .ref (wA Ω 470)), (1, .ref (wA Ω t0)), (2, .int p1), (3, .int p2), (4, .int a13.1), (5, .int x15)] [1, 2, 3, 4, 5, 0] rfl ?_
          exact hk11 (a13.1, x15, a13.2)
        · intro k14 hk14
          refine g_if_eq 46 (by decide) 34 rfl dX7_bestOffsetFor_31 ?_ ?_
          · exact hk14 (a10.1, a10.2.2)
          · refine g_aload_n 0 rfl rfl 35 rfl dX7_bestOffsetFor_34 ?_
            refine w_getR (lx_T hX) rfl in_X7 0 (by decide) wf_X7_9 471 rfl 38 rfl dX7_bestOffsetFor_35 ?_
            refine g_iload 4 rfl 40 rfl dX7_bestOffsetFor_38 ?_
            refine g_iload 5 rfl 42 rfl dX7_bestOffsetFor_40 ?_
            refine w_iast (lx_T1 hX) 43 rfl dX7_bestOffsetFor_42 ?_
            intro M16
            refine g_iinc 4 rfl 1 (by decide) (fun x17 => [(4, .int x17), (0, .ref (wA Ω 470)), (1, .ref (wA Ω t0)), (2, .int p1), (3, .int p2), (5, .int a10.2.1)]) 46 rfl dX7_bestOffsetFor_43 (by decide) (fun _ => rfl) ?_
            intro x17
            refine g_sub [(0, .ref (wA Ω 470)), (1, .ref (wA Ω t0)), (2, .int p1), (3, .int p2), (4, .int x17), (5, .int a10.2.1)] [1, 2, 3, 4, 0, 5] rfl ?_
            exact hk14 (x17, M16)
def fX3_layOut_L1 (M4 : Mem) (k6 : Int32 → Option (Int32 × Mem)) (k15 : (Int32 × Int32) → Option (Int32 × Mem)) (a14 : Int32 × Int32) : Option (Int32 × Mem) := if M4 465 0 ≤ a14.2 then (k6 a14.1) else (grd (inb a14.2 6) (grd (inb a14.2 6) (bnd (a14.1 - ((M4 468 a14.2.toNatClampNeg) + (M4 469 a14.2.toNatClampNeg))) (fun x16 => bnd (a14.2 + 1) (fun x17 => k15 (x16, x17))))))
def fX3_layOut (M : Mem) (j0 : Nat) (p1 : Int32) : Option (Int32 × Mem) := cl (fX3_divide M j0) (fun u1 M2 => cl (fX3_measure M2 j0) (fun u3 M4 => jn (fun (a5 : Int32) => if 0 ≤ a5 then (cl (fX3_spread M4 a5 (p1 - 5)) (fun u7 M8 => cl (fX3_setStarts M8) (fun u9 M10 => clp (fX3_isClear M10 j0 p1) (fun x11 => jn (fun (a12 : Int32) => some (a12, M10)) (fun k13 => if x11 = 0 then (k13 7) else (k13 0)))))) else (some (6, M4))) (fun k6 => lp (fX3_layOut_L1 M4 k6) FU (p1, 0))))
set_option maxRecDepth 100000 in
set_option maxHeartbeats 4000000 in
theorem c_X3_layOut {Ω : Wd} (l : Launch) (hO : OkW Ω) (hX : LX Ω) {j0 : Nat} (hj0 : isJ j0) (M : Mem) (p1 : Int32) : ∀ r, fX3_layOut M j0 p1 = some r → Ct l yX3_layOut (.code yX3_layOut cX3_layOut 5 (some .int)) 13 323 Ω [.ref (wA Ω 465), .ref (wA Ω j0), .int p1] M (cvI r) := by
  refine ofG [(0, .ref (wA Ω 465)), (1, .ref (wA Ω j0)), (2, .int p1)] hO (by decide) rfl (Nat.le_of_ble_eq_true rfl) rfl ?_
  intro p e s m args below meth c
  unfold fX3_layOut
  refine g_aload_n 0 rfl rfl 1 rfl dX3_layOut_0 ?_
  refine g_aload_n 1 rfl rfl 2 rfl dX3_layOut_1 ?_
  refine g_cVV 465 [.ref (wA Ω j0)] [] (c_X3_divide l hO hX hj0 M) dX3_layOut_2 uv_X3_51 rfl yk_X3_divide ⟨by decide, by decide⟩ (lx_P hX).1 (lx_P hX).2 rfl (Nat.le_of_ble_eq_true rfl) rfl 5 rfl ?_
  intro u1 M2
  refine g_aload_n 0 rfl rfl 6 rfl dX3_layOut_5 ?_
  refine g_aload_n 1 rfl rfl 7 rfl dX3_layOut_6 ?_
  refine g_cVV 465 [.ref (wA Ω j0)] [] (c_X3_measure l hO hX hj0 M2) dX3_layOut_7 uv_X3_55 rfl yk_X3_measure ⟨by decide, by decide⟩ (lx_P hX).1 (lx_P hX).2 rfl (Nat.le_of_ble_eq_true rfl) rfl 10 rfl ?_
  intro u3 M4
  refine g_iload_n 2 rfl rfl 11 rfl dX3_layOut_10 ?_
  refine g_istore_nA [(3, .int p1), (0, .ref (wA Ω 465)), (1, .ref (wA Ω j0)), (2, .int p1)] rfl 12 rfl dX3_layOut_11 (by decide) rfl ?_
  refine g_iconst 0 13 rfl dX3_layOut_12 (by decide) ?_
  refine g_istoreA [(4, .int 0), (3, .int p1), (0, .ref (wA Ω 465)), (1, .ref (wA Ω j0)), (2, .int p1)] 15 rfl dX3_layOut_13 (by decide) rfl ?_
  refine g_join 48 (fun a5 => [(0, .ref (wA Ω 465)), (1, .ref (wA Ω j0)), (2, .int p1), (3, .int a5)]) (fun a5 => []) (fun a5 => M4) ?_ ?_
  · intro a5
    refine g_iload_n 3 rfl rfl 49 rfl dX3_layOut_48 ?_
    refine g_if_ge 55 (by decide) 52 rfl dX3_layOut_49 ?_ ?_
    · refine g_aload_n 0 rfl rfl 56 rfl dX3_layOut_55 ?_
      refine g_iload_n 3 rfl rfl 57 rfl dX3_layOut_56 ?_
      refine g_iload_n 2 rfl rfl 58 rfl dX3_layOut_57 ?_
      refine g_iconst 5 59 rfl dX3_layOut_58 (by decide) ?_
      refine g_isub 60 rfl dX3_layOut_59 ?_
      refine g_cVV 465 [.int a5, .int (p1 - 5)] [] (c_X3_spread l hO hX M4 a5 (p1 - 5)) dX3_layOut_60 uv_X3_58 rfl yk_X3_spread ⟨by decide, by decide⟩ (lx_P hX).1 (lx_P hX).2 rfl (Nat.le_of_ble_eq_true rfl) rfl 63 rfl ?_
      intro u7 M8
      refine g_aload_n 0 rfl rfl 64 rfl dX3_layOut_63 ?_
      refine g_cVV 465 [] [] (c_X3_setStarts l hO hX M8) dX3_layOut_64 uv_X3_62 rfl yk_X3_setStarts ⟨by decide, by decide⟩ (lx_P hX).1 (lx_P hX).2 rfl (Nat.le_of_ble_eq_true rfl) rfl 67 rfl ?_
      intro u9 M10
      refine g_aload_n 0 rfl rfl 68 rfl dX3_layOut_67 ?_
      refine g_aload_n 1 rfl rfl 69 rfl dX3_layOut_68 ?_
      refine g_iload_n 2 rfl rfl 70 rfl dX3_layOut_69 ?_
      refine p_cVI 465 [.ref (wA Ω j0), .int p1] [] (c_X3_isClear l hO hX hj0 M10 p1) dX3_layOut_70 uv_X3_65 rfl yk_X3_isClear ⟨by decide, by decide⟩ (lx_P hX).1 (lx_P hX).2 rfl (Nat.le_of_ble_eq_true rfl) rfl 73 rfl ?_
      intro x11
      refine g_join 82 (fun a12 => []) (fun a12 => [.int a12]) (fun a12 => M10) ?_ ?_
      · intro a12
        exact g_iret rfl dX3_layOut_82
      · intro k13 hk13
        refine g_if_eq 80 (by decide) 76 rfl dX3_layOut_73 ?_ ?_
        · refine g_bipush 7 82 rfl dX3_layOut_80 (by decide) ?_
          refine g_sub [] [] rfl ?_
          exact hk13 7
        · refine g_iconst 0 77 rfl dX3_layOut_76 (by decide) ?_
          refine g_goto 82 (by decide) dX3_layOut_77 ?_
          refine g_sub [] [] rfl ?_
          exact hk13 0
    · refine g_bipush 6 54 rfl dX3_layOut_52 (by decide) ?_
      exact g_iret rfl dX3_layOut_54
  · intro k6 hk6
    refine g_sub [(0, .ref (wA Ω 465)), (1, .ref (wA Ω j0)), (2, .int p1), (3, .int p1), (4, .int 0)] [2, 3, 4, 1, 0] rfl ?_
    refine g_loop 15 (fun a14 => [(0, .ref (wA Ω 465)), (1, .ref (wA Ω j0)), (2, .int p1), (3, .int a14.1), (4, .int a14.2)]) (fun _ => []) (fun a14 => M4) ?_ FU (p1, 0)
    intro k15 hk15 a14
    unfold fX3_layOut_L1
    refine g_iload 4 rfl 17 rfl dX3_layOut_15 ?_
    refine g_aload_n 0 rfl rfl 18 rfl dX3_layOut_17 ?_
    refine w_get (lx_P hX) rfl in_X3 0 (by decide) wf_X3_34 rfl 21 rfl dX3_layOut_18 ?_
    refine g_icmp_ge 48 (by decide) 24 rfl dX3_layOut_21 ?_ ?_
    · refine g_sub [(0, .ref (wA Ω 465)), (1, .ref (wA Ω j0)), (2, .int p1), (3, .int a14.1)] [0, 1, 2, 3] rfl ?_
      exact hk6 a14.1
    · refine g_iload_n 3 rfl rfl 25 rfl dX3_layOut_24 ?_
      refine g_aload_n 0 rfl rfl 26 rfl dX3_layOut_25 ?_
      refine w_getR (lx_P hX) rfl in_X3 3 (by decide) wf_X3_18 468 rfl 29 rfl dX3_layOut_26 ?_
      refine g_iload 4 rfl 31 rfl dX3_layOut_29 ?_
      refine w_iald (lx_P3 hX) 32 rfl dX3_layOut_31 ?_
      refine g_aload_n 0 rfl rfl 33 rfl dX3_layOut_32 ?_
      refine w_getR (lx_P hX) rfl in_X3 4 (by decide) wf_X3_21 469 rfl 36 rfl dX3_layOut_33 ?_
      refine g_iload 4 rfl 38 rfl dX3_layOut_36 ?_
      refine w_iald (lx_P4 hX) 39 rfl dX3_layOut_38 ?_
      refine g_iadd 40 rfl dX3_layOut_39 ?_
      refine g_isub 41 rfl dX3_layOut_40 ?_
      refine g_istore_n (fun x16 => [(3, .int x16), (0, .ref (wA Ω 465)), (1, .ref (wA Ω j0)), (2, .int p1), (4, .int a14.2)]) rfl 42 rfl dX3_layOut_41 (by decide) (fun _ => rfl) ?_
      intro x16
      refine g_iinc 4 rfl 1 (by decide) (fun x17 => [(4, .int x17), (3, .int x16), (0, .ref (wA Ω 465)), (1, .ref (wA Ω j0)), (2, .int p1)]) 45 rfl dX3_layOut_42 (by decide) (fun _ => rfl) ?_
      intro x17
      refine g_goto 15 (by decide) dX3_layOut_45 ?_
      refine g_sub [(0, .ref (wA Ω 465)), (1, .ref (wA Ω j0)), (2, .int p1), (3, .int x16), (4, .int x17)] [2, 3, 4, 1, 0] rfl ?_
      exact hk15 (x16, x17)
