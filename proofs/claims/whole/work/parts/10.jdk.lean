def fJxf58ca_isNaN_12338 (M : Mem) (p0 : UInt32) : Option Int32 := jn (fun (a1 : Int32) => grd (isb a1) (some a1)) (fun k2 => if Op.cmpValue (FP.fcmp p0 p0) .l = 0 then (k2 0) else (k2 1))
set_option maxRecDepth 100000 in
set_option maxHeartbeats 4000000 in
theorem c_Jxf58ca_isNaN_12338 {Ω : Wd} (l : Launch) (hO : OkW Ω)  (M : Mem) (p0 : UInt32) : ∀ r, fJxf58ca_isNaN_12338 M p0 = some r → Ct l yJxf58ca_isNaN_12338 (.code yJxf58ca_isNaN_12338 cJxf58ca_isNaN_12338 1 (some .boolean)) 0 0 Ω [.float p0] M ((cpI M) r) := by
  refine ofGF [(0, .float p0)] hO (by decide +kernel) rfl (Nat.le_of_ble_eq_true rfl) rfl (fun _ => ⟨_, _, rfl⟩) ?_
  intro p e s m args below meth c
  unfold fJxf58ca_isNaN_12338
  refine g_fload_n 0 rfl rfl 1 rfl dJxf58ca_isNaN_12338_0 ?_
  refine g_fload_n 0 rfl rfl 2 rfl dJxf58ca_isNaN_12338_1 ?_
  refine f_fcmp 3 rfl dJxf58ca_isNaN_12338_2 ?_
  refine g_join 11 (fun a1 => []) (fun a1 => [.int a1]) (fun a1 => M) ?_ ?_
  · intro a1
    exact p_bret rfl dJxf58ca_isNaN_12338_11
  · intro k2 hk2
    refine g_if_eq 10 (by decide) 6 rfl dJxf58ca_isNaN_12338_3 ?_ ?_
    · refine g_iconst 0 11 rfl dJxf58ca_isNaN_12338_10 (by decide) ?_
      refine g_sub [] [] rfl ?_
      exact hk2 0
    · refine g_iconst 1 7 rfl dJxf58ca_isNaN_12338_6 (by decide) ?_
      refine g_goto 11 (by decide) dJxf58ca_isNaN_12338_7 ?_
      refine g_sub [] [] rfl ?_
      exact hk2 1
def fJxf58ca_floatToIntBits_5c35a (M : Mem) (p0 : UInt32) : Option Int32 := clp (fJxf58ca_isNaN_12338 M p0) (fun x1 => if x1 = 0 then (some p0.toInt32) else (some 2143289344))
set_option maxRecDepth 100000 in
set_option maxHeartbeats 4000000 in
theorem c_Jxf58ca_floatToIntBits_5c35a {Ω : Wd} (l : Launch) (hO : OkW Ω)  (M : Mem) (p0 : UInt32) : ∀ r, fJxf58ca_floatToIntBits_5c35a M p0 = some r → Ct l yJxf58ca_floatToIntBits_5c35a (.code yJxf58ca_floatToIntBits_5c35a cJxf58ca_floatToIntBits_5c35a 1 (some .int)) 1 40 Ω [.float p0] M ((cpI M) r) := by
  refine ofGF [(0, .float p0)] hO (by decide +kernel) rfl (Nat.le_of_ble_eq_true rfl) rfl (fun _ => ⟨_, _, rfl⟩) ?_
  intro p e s m args below meth c
  unfold fJxf58ca_floatToIntBits_5c35a
  refine g_fload_n 0 rfl rfl 1 rfl dJxf58ca_floatToIntBits_5c35a_0 ?_
  refine p_cSI [.float p0] [] (c_Jxf58ca_isNaN_12338 l hO M p0) dJxf58ca_floatToIntBits_5c35a_1 us_Jxf58ca_59 rfl yk_Jxf58ca_isNaN_12338 ⟨by decide, by decide⟩ (Nat.le_of_ble_eq_true rfl) rfl 4 rfl ?_
  intro x1
  refine g_if_ne 12 (by decide) 7 rfl dJxf58ca_floatToIntBits_5c35a_4 ?_ ?_
  · refine g_fload_n 0 rfl rfl 8 rfl dJxf58ca_floatToIntBits_5c35a_7 ?_
    refine f_raw wraw_l wraw_n wraw_s wraw_i (by decide) (Nat.le_of_ble_eq_true rfl) 11 rfl dJxf58ca_floatToIntBits_5c35a_8 ?_
    exact p_iret rfl dJxf58ca_floatToIntBits_5c35a_11
  · refine g_ldc 2143289344 wq_Jxf58ca_77 14 rfl dJxf58ca_floatToIntBits_5c35a_12 ?_
    exact p_iret rfl dJxf58ca_floatToIntBits_5c35a_14
def fJ6_bitCount_0f7a4 (M : Mem) (p0 : Int32) : Option Int32 := bnd (p0 - (((p0.toUInt32 >>> ((1 : Int32).toUInt32 &&& Int32.toUInt32 31)).toInt32) &&& 1431655765)) (fun x1 => bnd ((x1 &&& 858993459) + (((x1.toUInt32 >>> ((2 : Int32).toUInt32 &&& Int32.toUInt32 31)).toInt32) &&& 858993459)) (fun x2 => bnd ((x2 + ((x2.toUInt32 >>> ((4 : Int32).toUInt32 &&& Int32.toUInt32 31)).toInt32)) &&& 252645135) (fun x3 => bnd (x3 + ((x3.toUInt32 >>> ((8 : Int32).toUInt32 &&& Int32.toUInt32 31)).toInt32)) (fun x4 => bnd (x4 + ((x4.toUInt32 >>> ((16 : Int32).toUInt32 &&& Int32.toUInt32 31)).toInt32)) (fun x5 => some (x5 &&& 63))))))
set_option maxRecDepth 100000 in
set_option maxHeartbeats 4000000 in
theorem c_J6_bitCount_0f7a4 {Ω : Wd} (l : Launch) (hO : OkW Ω)  (M : Mem) (p0 : Int32) : ∀ r, fJ6_bitCount_0f7a4 M p0 = some r → Ct l yJ6_bitCount_0f7a4 (.code yJ6_bitCount_0f7a4 cJ6_bitCount_0f7a4 1 (some .int)) 0 0 Ω [.int p0] M ((cpI M) r) := by
  refine ofGF [(0, .int p0)] hO (by decide +kernel) rfl (Nat.le_of_ble_eq_true rfl) rfl (fun _ => ⟨_, _, rfl⟩) ?_
  intro p e s m args below meth c
  unfold fJ6_bitCount_0f7a4
  refine g_iload_n 0 rfl rfl 1 rfl dJ6_bitCount_0f7a4_0 ?_
  refine g_iload_n 0 rfl rfl 2 rfl dJ6_bitCount_0f7a4_1 ?_
  refine g_iconst 1 3 rfl dJ6_bitCount_0f7a4_2 (by decide) ?_
  refine g_iushr 4 rfl dJ6_bitCount_0f7a4_3 ?_
  refine g_ldc_w 1431655765 wq_J6_265 7 rfl dJ6_bitCount_0f7a4_4 ?_
  refine g_iand 8 rfl dJ6_bitCount_0f7a4_7 ?_
  refine g_isub 9 rfl dJ6_bitCount_0f7a4_8 ?_
  refine g_istore_n (fun x1 => [(0, .int x1)]) rfl 10 rfl dJ6_bitCount_0f7a4_9 (by decide) (fun _ => rfl) ?_
  intro x1
  refine g_iload_n 0 rfl rfl 11 rfl dJ6_bitCount_0f7a4_10 ?_
  refine g_ldc_w 858993459 wq_J6_266 14 rfl dJ6_bitCount_0f7a4_11 ?_
  refine g_iand 15 rfl dJ6_bitCount_0f7a4_14 ?_
  refine g_iload_n 0 rfl rfl 16 rfl dJ6_bitCount_0f7a4_15 ?_
  refine g_iconst 2 17 rfl dJ6_bitCount_0f7a4_16 (by decide) ?_
  refine g_iushr 18 rfl dJ6_bitCount_0f7a4_17 ?_
  refine g_ldc_w 858993459 wq_J6_266 21 rfl dJ6_bitCount_0f7a4_18 ?_
  refine g_iand 22 rfl dJ6_bitCount_0f7a4_21 ?_
  refine g_iadd 23 rfl dJ6_bitCount_0f7a4_22 ?_
  refine g_istore_n (fun x2 => [(0, .int x2)]) rfl 24 rfl dJ6_bitCount_0f7a4_23 (by decide) (fun _ => rfl) ?_
  intro x2
  refine g_iload_n 0 rfl rfl 25 rfl dJ6_bitCount_0f7a4_24 ?_
  refine g_iload_n 0 rfl rfl 26 rfl dJ6_bitCount_0f7a4_25 ?_
  refine g_iconst 4 27 rfl dJ6_bitCount_0f7a4_26 (by decide) ?_
  refine g_iushr 28 rfl dJ6_bitCount_0f7a4_27 ?_
  refine g_iadd 29 rfl dJ6_bitCount_0f7a4_28 ?_
  refine g_ldc_w 252645135 wq_J6_267 32 rfl dJ6_bitCount_0f7a4_29 ?_
  refine g_iand 33 rfl dJ6_bitCount_0f7a4_32 ?_
  refine g_istore_n (fun x3 => [(0, .int x3)]) rfl 34 rfl dJ6_bitCount_0f7a4_33 (by decide) (fun _ => rfl) ?_
  intro x3
  refine g_iload_n 0 rfl rfl 35 rfl dJ6_bitCount_0f7a4_34 ?_
  refine g_iload_n 0 rfl rfl 36 rfl dJ6_bitCount_0f7a4_35 ?_
  refine g_bipush 8 38 rfl dJ6_bitCount_0f7a4_36 (by decide) ?_
  refine g_iushr 39 rfl dJ6_bitCount_0f7a4_38 ?_
  refine g_iadd 40 rfl dJ6_bitCount_0f7a4_39 ?_
  refine g_istore_n (fun x4 => [(0, .int x4)]) rfl 41 rfl dJ6_bitCount_0f7a4_40 (by decide) (fun _ => rfl) ?_
  intro x4
  refine g_iload_n 0 rfl rfl 42 rfl dJ6_bitCount_0f7a4_41 ?_
  refine g_iload_n 0 rfl rfl 43 rfl dJ6_bitCount_0f7a4_42 ?_
  refine g_bipush 16 45 rfl dJ6_bitCount_0f7a4_43 (by decide) ?_
  refine g_iushr 46 rfl dJ6_bitCount_0f7a4_45 ?_
  refine g_iadd 47 rfl dJ6_bitCount_0f7a4_46 ?_
  refine g_istore_n (fun x5 => [(0, .int x5)]) rfl 48 rfl dJ6_bitCount_0f7a4_47 (by decide) (fun _ => rfl) ?_
  intro x5
  refine g_iload_n 0 rfl rfl 49 rfl dJ6_bitCount_0f7a4_48 ?_
  refine g_bipush 63 51 rfl dJ6_bitCount_0f7a4_49 (by decide) ?_
  refine g_iand 52 rfl dJ6_bitCount_0f7a4_51 ?_
  exact p_iret rfl dJ6_bitCount_0f7a4_52
def fJ9_floorMod_7cf53 (M : Mem) (p0 : Int32) (p1 : Int32) : Option Int32 := grd (nz p1) (bnd (p0 - p0 / p1 * p1) (fun x1 => jn (fun (a2 : Unit) => some x1) (fun k3 => if 0 ≤ p0 ^^^ p1 then (k3 ()) else (if x1 = 0 then (k3 ()) else (some (x1 + p1))))))
set_option maxRecDepth 100000 in
set_option maxHeartbeats 4000000 in
theorem c_J9_floorMod_7cf53 {Ω : Wd} (l : Launch) (hO : OkW Ω)  (M : Mem) (p0 : Int32) (p1 : Int32) : ∀ r, fJ9_floorMod_7cf53 M p0 p1 = some r → Ct l yJ9_floorMod_7cf53 (.code yJ9_floorMod_7cf53 cJ9_floorMod_7cf53 3 (some .int)) 0 0 Ω [.int p0, .int p1] M ((cpI M) r) := by
  refine ofGF [(0, .int p0), (1, .int p1)] hO (by decide +kernel) rfl (Nat.le_of_ble_eq_true rfl) rfl (fun _ => ⟨_, _, rfl⟩) ?_
  intro p e s m args below meth c
  unfold fJ9_floorMod_7cf53
  refine g_iload_n 0 rfl rfl 1 rfl dJ9_floorMod_7cf53_0 ?_
  refine g_iload_n 1 rfl rfl 2 rfl dJ9_floorMod_7cf53_1 ?_
  refine g_irem 3 rfl dJ9_floorMod_7cf53_2 ?_
  refine g_istore_n (fun x1 => [(2, .int x1), (0, .int p0), (1, .int p1)]) rfl 4 rfl dJ9_floorMod_7cf53_3 (by decide) (fun _ => rfl) ?_
  intro x1
  refine g_iload_n 1 rfl rfl 5 rfl dJ9_floorMod_7cf53_4 ?_
  refine g_iload_n 2 rfl rfl 6 rfl dJ9_floorMod_7cf53_5 ?_
  refine g_ixor 7 rfl dJ9_floorMod_7cf53_6 ?_
  refine g_join 18 (fun a2 => [(2, .int x1)]) (fun a2 => []) (fun a2 => M) ?_ ?_
  · intro a2
    refine g_iload_n 0 rfl rfl 19 rfl dJ9_floorMod_7cf53_18 ?_
    exact p_iret rfl dJ9_floorMod_7cf53_19
  · intro k3 hk3
    refine g_if_ge 18 (by decide) 10 rfl dJ9_floorMod_7cf53_7 ?_ ?_
    · refine g_sub [(2, .int x1)] [0] rfl ?_
      exact hk3 ()
    · refine g_iload_n 0 rfl rfl 11 rfl dJ9_floorMod_7cf53_10 ?_
      refine g_if_eq 18 (by decide) 14 rfl dJ9_floorMod_7cf53_11 ?_ ?_
      · refine g_sub [(2, .int x1)] [0] rfl ?_
        exact hk3 ()
      · refine g_iload_n 0 rfl rfl 15 rfl dJ9_floorMod_7cf53_14 ?_
        refine g_iload_n 2 rfl rfl 16 rfl dJ9_floorMod_7cf53_15 ?_
        refine g_iadd 17 rfl dJ9_floorMod_7cf53_16 ?_
        exact p_iret rfl dJ9_floorMod_7cf53_17
def fJ9_abs_0f7a4 (M : Mem) (p0 : Int32) : Option Int32 := jn (fun (a1 : Int32) => some a1) (fun k2 => if 0 ≤ p0 then (k2 p0) else (k2 (-p0)))
set_option maxRecDepth 100000 in
set_option maxHeartbeats 4000000 in
theorem c_J9_abs_0f7a4 {Ω : Wd} (l : Launch) (hO : OkW Ω)  (M : Mem) (p0 : Int32) : ∀ r, fJ9_abs_0f7a4 M p0 = some r → Ct l yJ9_abs_0f7a4 (.code yJ9_abs_0f7a4 cJ9_abs_0f7a4 1 (some .int)) 0 0 Ω [.int p0] M ((cpI M) r) := by
  refine ofGF [(0, .int p0)] hO (by decide +kernel) rfl (Nat.le_of_ble_eq_true rfl) rfl (fun _ => ⟨_, _, rfl⟩) ?_
  intro p e s m args below meth c
  unfold fJ9_abs_0f7a4
  refine g_iload_n 0 rfl rfl 1 rfl dJ9_abs_0f7a4_0 ?_
  refine g_join 10 (fun a1 => []) (fun a1 => [.int a1]) (fun a1 => M) ?_ ?_
  · intro a1
    exact p_iret rfl dJ9_abs_0f7a4_10
  · intro k2 hk2
    refine g_if_ge 9 (by decide) 4 rfl dJ9_abs_0f7a4_1 ?_ ?_
    · refine g_iload_n 0 rfl rfl 10 rfl dJ9_abs_0f7a4_9 ?_
      refine g_sub [] [] rfl ?_
      exact hk2 p0
    · refine g_iload_n 0 rfl rfl 5 rfl dJ9_abs_0f7a4_4 ?_
      refine g_ineg 6 rfl dJ9_abs_0f7a4_5 ?_
      refine g_goto 10 (by decide) dJ9_abs_0f7a4_6 ?_
      refine g_sub [] [] rfl ?_
      exact hk2 (-p0)
def fJ9_max_7cf53 (M : Mem) (p0 : Int32) (p1 : Int32) : Option Int32 := jn (fun (a1 : Int32) => some a1) (fun k2 => if p0 < p1 then (k2 p1) else (k2 p0))
set_option maxRecDepth 100000 in
set_option maxHeartbeats 4000000 in
theorem c_J9_max_7cf53 {Ω : Wd} (l : Launch) (hO : OkW Ω)  (M : Mem) (p0 : Int32) (p1 : Int32) : ∀ r, fJ9_max_7cf53 M p0 p1 = some r → Ct l yJ9_max_7cf53 (.code yJ9_max_7cf53 cJ9_max_7cf53 2 (some .int)) 0 0 Ω [.int p0, .int p1] M ((cpI M) r) := by
  refine ofGF [(0, .int p0), (1, .int p1)] hO (by decide +kernel) rfl (Nat.le_of_ble_eq_true rfl) rfl (fun _ => ⟨_, _, rfl⟩) ?_
  intro p e s m args below meth c
  unfold fJ9_max_7cf53
  refine g_iload_n 0 rfl rfl 1 rfl dJ9_max_7cf53_0 ?_
  refine g_iload_n 1 rfl rfl 2 rfl dJ9_max_7cf53_1 ?_
  refine g_join 10 (fun a1 => []) (fun a1 => [.int a1]) (fun a1 => M) ?_ ?_
  · intro a1
    exact p_iret rfl dJ9_max_7cf53_10
  · intro k2 hk2
    refine g_icmp_lt 9 (by decide) 5 rfl dJ9_max_7cf53_2 ?_ ?_
    · refine g_iload_n 1 rfl rfl 10 rfl dJ9_max_7cf53_9 ?_
      refine g_sub [] [] rfl ?_
      exact hk2 p1
    · refine g_iload_n 0 rfl rfl 6 rfl dJ9_max_7cf53_5 ?_
      refine g_goto 10 (by decide) dJ9_max_7cf53_6 ?_
      refine g_sub [] [] rfl ?_
      exact hk2 p0
def fJ9_min_7cf53 (M : Mem) (p0 : Int32) (p1 : Int32) : Option Int32 := jn (fun (a1 : Int32) => some a1) (fun k2 => if p1 < p0 then (k2 p1) else (k2 p0))
set_option maxRecDepth 100000 in
set_option maxHeartbeats 4000000 in
theorem c_J9_min_7cf53 {Ω : Wd} (l : Launch) (hO : OkW Ω)  (M : Mem) (p0 : Int32) (p1 : Int32) : ∀ r, fJ9_min_7cf53 M p0 p1 = some r → Ct l yJ9_min_7cf53 (.code yJ9_min_7cf53 cJ9_min_7cf53 2 (some .int)) 0 0 Ω [.int p0, .int p1] M ((cpI M) r) := by
  refine ofGF [(0, .int p0), (1, .int p1)] hO (by decide +kernel) rfl (Nat.le_of_ble_eq_true rfl) rfl (fun _ => ⟨_, _, rfl⟩) ?_
  intro p e s m args below meth c
  unfold fJ9_min_7cf53
  refine g_iload_n 0 rfl rfl 1 rfl dJ9_min_7cf53_0 ?_
  refine g_iload_n 1 rfl rfl 2 rfl dJ9_min_7cf53_1 ?_
  refine g_join 10 (fun a1 => []) (fun a1 => [.int a1]) (fun a1 => M) ?_ ?_
  · intro a1
    exact p_iret rfl dJ9_min_7cf53_10
  · intro k2 hk2
    refine g_icmp_gt 9 (by decide) 5 rfl dJ9_min_7cf53_2 ?_ ?_
    · refine g_iload_n 1 rfl rfl 10 rfl dJ9_min_7cf53_9 ?_
      refine g_sub [] [] rfl ?_
      exact hk2 p1
    · refine g_iload_n 0 rfl rfl 6 rfl dJ9_min_7cf53_5 ?_
      refine g_goto 10 (by decide) dJ9_min_7cf53_6 ?_
      refine g_sub [] [] rfl ?_
      exact hk2 p0
def fJ7_fill_53178_L1 (o : Nat) (N : Nat) (p1 : Int32) (x1 : Int32) (k3 : (Int32 × Mem) → Option (Unit × Mem)) (a2 : Int32 × Mem) : Option (Unit × Mem) := if x1 ≤ a2.1 then (some ((), a2.2)) else (grd (inb a2.1 N) (bnd (mset a2.2 o a2.1.toNatClampNeg p1) (fun M4 => bnd (a2.1 + 1) (fun x5 => k3 (x5, M4)))))
def fJ7_fill_53178 (M : Mem) (o : Nat) (N : Nat) (p1 : Int32) : Option (Unit × Mem) := bnd (Int32.ofNat N) (fun x1 => lp (fJ7_fill_53178_L1 o N p1 x1) FU (0, M))
set_option maxRecDepth 100000 in
set_option maxHeartbeats 4000000 in
theorem c_J7_fill_53178 {Ω : Wd} (l : Launch) (hO : OkW Ω) {o N : Nat} (ha : IA Ω o N) (M : Mem) (p1 : Int32) : ∀ r, fJ7_fill_53178 M o N p1 = some r → Ct l yJ7_fill_53178 (.code yJ7_fill_53178 cJ7_fill_53178 4 none) 0 0 Ω [.ref (wA Ω o), .int p1] M (cvV r) := by
  refine ofGF [(0, .ref (wA Ω o)), (1, .int p1)] hO (by decide +kernel) rfl (Nat.le_of_ble_eq_true rfl) rfl (fun _ => ⟨_, _, rfl⟩) ?_
  intro p e s m args below meth c
  unfold fJ7_fill_53178
  refine g_iconst 0 1 rfl dJ7_fill_53178_0 (by decide) ?_
  refine g_istore_nA [(2, .int 0), (0, .ref (wA Ω o)), (1, .int p1)] rfl 2 rfl dJ7_fill_53178_1 (by decide) rfl ?_
  refine g_aload_n 1 rfl rfl 3 rfl dJ7_fill_53178_2 ?_
  refine w_alen (ha) (Int32.ofNat N) rfl 4 rfl dJ7_fill_53178_3 ?_
  refine g_istore_n (fun x1 => [(3, .int x1), (2, .int 0), (0, .ref (wA Ω o)), (1, .int p1)]) rfl 5 rfl dJ7_fill_53178_4 (by decide) (fun _ => rfl) ?_
  intro x1
  refine g_sub [(0, .ref (wA Ω o)), (1, .int p1), (2, .int 0), (3, .int x1)] [2, 3, 1, 0] rfl ?_
  refine g_loop 5 (fun a2 => [(0, .ref (wA Ω o)), (1, .int p1), (2, .int a2.1), (3, .int x1)]) (fun _ => []) (fun a2 => a2.2) ?_ FU (0, M)
  intro k3 hk3 a2
  unfold fJ7_fill_53178_L1
  refine g_iload_n 2 rfl rfl 6 rfl dJ7_fill_53178_5 ?_
  refine g_iload_n 3 rfl rfl 7 rfl dJ7_fill_53178_6 ?_
  refine g_icmp_ge 20 (by decide) 10 rfl dJ7_fill_53178_7 ?_ ?_
  · exact g_vret rfl dJ7_fill_53178_20
  · refine g_aload_n 0 rfl rfl 11 rfl dJ7_fill_53178_10 ?_
    refine g_iload_n 2 rfl rfl 12 rfl dJ7_fill_53178_11 ?_
    refine g_iload_n 1 rfl rfl 13 rfl dJ7_fill_53178_12 ?_
    refine w_iast (ha) 14 rfl dJ7_fill_53178_13 ?_
    intro M4
    refine g_iinc 2 rfl 1 (by decide) (fun x5 => [(2, .int x5), (0, .ref (wA Ω o)), (1, .int p1), (3, .int x1)]) 17 rfl dJ7_fill_53178_14 (by decide) (fun _ => rfl) ?_
    intro x5
    refine g_goto 5 (by decide) dJ7_fill_53178_17 ?_
    refine g_sub [(0, .ref (wA Ω o)), (1, .int p1), (2, .int x5), (3, .int x1)] [1, 2, 0, 3] rfl ?_
    exact hk3 (x5, M4)
