def fX2_copyFrom (M : Mem) (j : Nat) (j0 : Nat) : Option (Unit × Mem) := bnd (mset M j 0 (M j0 0)) (fun M1 => bnd (mset M1 j 1 (M1 j0 1)) (fun M2 => bnd (mset M2 j 2 (M2 j0 2)) (fun M3 => bnd (mset M3 j 3 (M3 j0 3)) (fun M4 => bnd (mset M4 j 4 (M4 j0 4)) (fun M5 => bnd (mset M5 j 5 (M5 j0 5)) (fun M6 => bnd (mset M6 j 6 (M6 j0 6)) (fun M7 => bnd (mset M7 j 7 (M7 j0 7)) (fun M8 => bnd (mset M8 j 8 (M8 j0 8)) (fun M9 => bnd (va_up M9 (j + 1) (va_cpy (M9 (j0 + 1)) (M9 (j + 1)) 0 0 2)) (fun M10 => bnd (va_up M10 (j + 2) (va_cpy (M10 (j0 + 2)) (M10 (j + 2)) 0 0 6)) (fun M11 => bnd (va_up M11 (j + 3) (va_cpy (M11 (j0 + 3)) (M11 (j + 3)) 0 0 6)) (fun M12 => bnd (va_up M12 (j + 4) (va_cpy (M12 (j0 + 4)) (M12 (j + 4)) 0 0 6)) (fun M13 => bnd (va_up M13 (j + 5) (va_cpy (M13 (j0 + 5)) (M13 (j + 5)) 0 0 6)) (fun M14 => bnd (va_up M14 (j + 6) (va_cpy (M14 (j0 + 6)) (M14 (j + 6)) 0 0 18)) (fun M15 => bnd (va_up M15 (j + 7) (va_cpy (M15 (j0 + 7)) (M15 (j + 7)) 0 0 36)) (fun M16 => bnd (va_up M16 (j + 8) (va_cpy (M16 (j0 + 8)) (M16 (j + 8)) 0 0 12)) (fun M17 => bnd (va_up M17 (j + 9) (va_cpy (M17 (j0 + 9)) (M17 (j + 9)) 0 0 12)) (fun M18 => some ((), M18)))))))))))))))))))
set_option maxRecDepth 100000 in
set_option maxHeartbeats 4000000 in
theorem c_X2_copyFrom {Ω : Wd} (l : Launch) (hO : OkW Ω) (hX : LX Ω) {j : Nat} (hj : isJ j) {j0 : Nat} (hj0 : isJ j0) (M : Mem)  : ∀ r, fX2_copyFrom M j j0 = some r → Ct l yX2_copyFrom (.code yX2_copyFrom cX2_copyFrom 2 none) 1 26 Ω [.ref (wA Ω j), .ref (wA Ω j0)] M (cvV r) := by
  refine ofG [(0, .ref (wA Ω j)), (1, .ref (wA Ω j0))] hO (by decide) rfl (Nat.le_of_ble_eq_true rfl) rfl ?_
  intro p e s m args below meth c
  unfold fX2_copyFrom
  refine g_aload_n 0 rfl rfl 1 rfl dX2_copyFrom_0 ?_
  refine g_aload_n 1 rfl rfl 2 rfl dX2_copyFrom_1 ?_
  refine w_get (lx_J hX hj0) rfl in_X2 0 (by decide) wf_X2_49 rfl 5 rfl dX2_copyFrom_2 ?_
  refine w_put (lx_J hX hj) rfl in_X2 0 (by decide) wf_X2_49 tyX2 tyX2_ok nmX2 rfl rfl rfl rfl 8 rfl dX2_copyFrom_5 ?_
  intro M1
  refine g_aload_n 0 rfl rfl 9 rfl dX2_copyFrom_8 ?_
  refine g_aload_n 1 rfl rfl 10 rfl dX2_copyFrom_9 ?_
  refine w_get (lx_J hX hj0) rfl in_X2 1 (by decide) wf_X2_52 rfl 13 rfl dX2_copyFrom_10 ?_
  refine w_put (lx_J hX hj) rfl in_X2 1 (by decide) wf_X2_52 tyX2 tyX2_ok nmX2 rfl rfl rfl rfl 16 rfl dX2_copyFrom_13 ?_
  intro M2
  refine g_aload_n 0 rfl rfl 17 rfl dX2_copyFrom_16 ?_
  refine g_aload_n 1 rfl rfl 18 rfl dX2_copyFrom_17 ?_
  refine w_get (lx_J hX hj0) rfl in_X2 2 (by decide) wf_X2_55 rfl 21 rfl dX2_copyFrom_18 ?_
  refine w_put (lx_J hX hj) rfl in_X2 2 (by decide) wf_X2_55 tyX2 tyX2_ok nmX2 rfl rfl rfl rfl 24 rfl dX2_copyFrom_21 ?_
  intro M3
  refine g_aload_n 0 rfl rfl 25 rfl dX2_copyFrom_24 ?_
  refine g_aload_n 1 rfl rfl 26 rfl dX2_copyFrom_25 ?_
  refine w_get (lx_J hX hj0) rfl in_X2 3 (by decide) wf_X2_58 rfl 29 rfl dX2_copyFrom_26 ?_
  refine w_put (lx_J hX hj) rfl in_X2 3 (by decide) wf_X2_58 tyX2 tyX2_ok nmX2 rfl rfl rfl rfl 32 rfl dX2_copyFrom_29 ?_
  intro M4
  refine g_aload_n 0 rfl rfl 33 rfl dX2_copyFrom_32 ?_
  refine g_aload_n 1 rfl rfl 34 rfl dX2_copyFrom_33 ?_
  refine w_get (lx_J hX hj0) rfl in_X2 4 (by decide) wf_X2_9 rfl 37 rfl dX2_copyFrom_34 ?_
  refine w_put (lx_J hX hj) rfl in_X2 4 (by decide) wf_X2_9 tyX2 tyX2_ok nmX2 rfl rfl rfl rfl 40 rfl dX2_copyFrom_37 ?_
  intro M5
  refine g_aload_n 0 rfl rfl 41 rfl dX2_copyFrom_40 ?_
  refine g_aload_n 1 rfl rfl 42 rfl dX2_copyFrom_41 ?_
  refine w_get (lx_J hX hj0) rfl in_X2 5 (by decide) wf_X2_61 rfl 45 rfl dX2_copyFrom_42 ?_
  refine w_put (lx_J hX hj) rfl in_X2 5 (by decide) wf_X2_61 tyX2 tyX2_ok nmX2 rfl rfl rfl rfl 48 rfl dX2_copyFrom_45 ?_
  intro M6
  refine g_aload_n 0 rfl rfl 49 rfl dX2_copyFrom_48 ?_
  refine g_aload_n 1 rfl rfl 50 rfl dX2_copyFrom_49 ?_
  refine w_get (lx_J hX hj0) rfl in_X2 6 (by decide) wf_X2_64 rfl 53 rfl dX2_copyFrom_50 ?_
  refine w_put (lx_J hX hj) rfl in_X2 6 (by decide) wf_X2_64 tyX2 tyX2_ok nmX2 rfl rfl rfl rfl 56 rfl dX2_copyFrom_53 ?_
  intro M7
  refine g_aload_n 0 rfl rfl 57 rfl dX2_copyFrom_56 ?_
  refine g_aload_n 1 rfl rfl 58 rfl dX2_copyFrom_57 ?_
  refine w_get (lx_J hX hj0) rfl in_X2 7 (by decide) wf_X2_67 rfl 61 rfl dX2_copyFrom_58 ?_
  refine w_put (lx_J hX hj) rfl in_X2 7 (by decide) wf_X2_67 tyX2 tyX2_ok nmX2 rfl rfl rfl rfl 64 rfl dX2_copyFrom_61 ?_
  intro M8
  refine g_aload_n 0 rfl rfl 65 rfl dX2_copyFrom_64 ?_
  refine g_aload_n 1 rfl rfl 66 rfl dX2_copyFrom_65 ?_
  refine w_get (lx_J hX hj0) rfl in_X2 8 (by decide) wf_X2_70 rfl 69 rfl dX2_copyFrom_66 ?_
  refine w_put (lx_J hX hj) rfl in_X2 8 (by decide) wf_X2_70 tyX2 tyX2_ok nmX2 rfl rfl rfl rfl 72 rfl dX2_copyFrom_69 ?_
  intro M9
  refine g_aload_n 1 rfl rfl 73 rfl dX2_copyFrom_72 ?_
  refine w_getR (lx_J hX hj0) rfl in_X2 9 (by decide) wf_X2_15 (j0 + 1) rfl 76 rfl dX2_copyFrom_73 ?_
  refine g_iconst 0 77 rfl dX2_copyFrom_76 (by decide) ?_
  refine g_aload_n 0 rfl rfl 78 rfl dX2_copyFrom_77 ?_
  refine w_getR (lx_J hX hj) rfl in_X2 9 (by decide) wf_X2_15 (j + 1) rfl 81 rfl dX2_copyFrom_78 ?_
  refine g_iconst 0 82 rfl dX2_copyFrom_81 (by decide) ?_
  refine g_iconst 2 83 rfl dX2_copyFrom_82 (by decide) ?_
  refine w_copy (o := (j0 + 1)) (o1 := (j + 1)) (sp := 0) (dp := 0) (k := 2) (lx_J1 hX hj0) (lx_J1 hX hj) wk_X2_73 wna_copy wst_copy win_System (by decide) (by decide) (by decide) (by decide) (by decide) (by decide) (by decide) 86 rfl dX2_copyFrom_83 ?_
  intro M10
  refine g_aload_n 1 rfl rfl 87 rfl dX2_copyFrom_86 ?_
  refine w_getR (lx_J hX hj0) rfl in_X2 10 (by decide) wf_X2_19 (j0 + 2) rfl 90 rfl dX2_copyFrom_87 ?_
  refine g_iconst 0 91 rfl dX2_copyFrom_90 (by decide) ?_
  refine g_aload_n 0 rfl rfl 92 rfl dX2_copyFrom_91 ?_
  refine w_getR (lx_J hX hj) rfl in_X2 10 (by decide) wf_X2_19 (j + 2) rfl 95 rfl dX2_copyFrom_92 ?_
  refine g_iconst 0 96 rfl dX2_copyFrom_95 (by decide) ?_
  refine g_bipush 6 98 rfl dX2_copyFrom_96 (by decide) ?_
  refine w_copy (o := (j0 + 2)) (o1 := (j + 2)) (sp := 0) (dp := 0) (k := 6) (lx_J2 hX hj0) (lx_J2 hX hj) wk_X2_73 wna_copy wst_copy win_System (by decide) (by decide) (by decide) (by decide) (by decide) (by decide) (by decide) 101 rfl dX2_copyFrom_98 ?_
  intro M11
  refine g_aload_n 1 rfl rfl 102 rfl dX2_copyFrom_101 ?_
  refine w_getR (lx_J hX hj0) rfl in_X2 11 (by decide) wf_X2_22 (j0 + 3) rfl 105 rfl dX2_copyFrom_102 ?_
  refine g_iconst 0 106 rfl dX2_copyFrom_105 (by decide) ?_
  refine g_aload_n 0 rfl rfl 107 rfl dX2_copyFrom_106 ?_
  refine w_getR (lx_J hX hj) rfl in_X2 11 (by decide) wf_X2_22 (j + 3) rfl 110 rfl dX2_copyFrom_107 ?_
  refine g_iconst 0 111 rfl dX2_copyFrom_110 (by decide) ?_
  refine g_bipush 6 113 rfl dX2_copyFrom_111 (by decide) ?_
  refine w_copy (o := (j0 + 3)) (o1 := (j + 3)) (sp := 0) (dp := 0) (k := 6) (lx_J3 hX hj0) (lx_J3 hX hj) wk_X2_73 wna_copy wst_copy win_System (by decide) (by decide) (by decide) (by decide) (by decide) (by decide) (by decide) 116 rfl dX2_copyFrom_113 ?_
  intro M12
  refine g_aload_n 1 rfl rfl 117 rfl dX2_copyFrom_116 ?_
  refine w_getR (lx_J hX hj0) rfl in_X2 12 (by decide) wf_X2_25 (j0 + 4) rfl 120 rfl dX2_copyFrom_117 ?_
  refine g_iconst 0 121 rfl dX2_copyFrom_120 (by decide) ?_
  refine g_aload_n 0 rfl rfl 122 rfl dX2_copyFrom_121 ?_
  refine w_getR (lx_J hX hj) rfl in_X2 12 (by decide) wf_X2_25 (j + 4) rfl 125 rfl dX2_copyFrom_122 ?_
  refine g_iconst 0 126 rfl dX2_copyFrom_125 (by decide) ?_
  refine g_bipush 6 128 rfl dX2_copyFrom_126 (by decide) ?_
  refine w_copy (o := (j0 + 4)) (o1 := (j + 4)) (sp := 0) (dp := 0) (k := 6) (lx_J4 hX hj0) (lx_J4 hX hj) wk_X2_73 wna_copy wst_copy win_System (by decide) (by decide) (by decide) (by decide) (by decide) (by decide) (by decide) 131 rfl dX2_copyFrom_128 ?_
  intro M13
  refine g_aload_n 1 rfl rfl 132 rfl dX2_copyFrom_131 ?_
  refine w_getR (lx_J hX hj0) rfl in_X2 13 (by decide) wf_X2_28 (j0 + 5) rfl 135 rfl dX2_copyFrom_132 ?_
  refine g_iconst 0 136 rfl dX2_copyFrom_135 (by decide) ?_
  refine g_aload_n 0 rfl rfl 137 rfl dX2_copyFrom_136 ?_
  refine w_getR (lx_J hX hj) rfl in_X2 13 (by decide) wf_X2_28 (j + 5) rfl 140 rfl dX2_copyFrom_137 ?_
  refine g_iconst 0 141 rfl dX2_copyFrom_140 (by decide) ?_
  refine g_bipush 6 143 rfl dX2_copyFrom_141 (by decide) ?_
  refine w_copy (o := (j0 + 5)) (o1 := (j + 5)) (sp := 0) (dp := 0) (k := 6) (lx_J5 hX hj0) (lx_J5 hX hj) wk_X2_73 wna_copy wst_copy win_System (by decide) (by decide) (by decide) (by decide) (by decide) (by decide) (by decide) 146 rfl dX2_copyFrom_143 ?_
  intro M14
  refine g_aload_n 1 rfl rfl 147 rfl dX2_copyFrom_146 ?_
  refine w_getR (lx_J hX hj0) rfl in_X2 14 (by decide) wf_X2_31 (j0 + 6) rfl 150 rfl dX2_copyFrom_147 ?_
  refine g_iconst 0 151 rfl dX2_copyFrom_150 (by decide) ?_
  refine g_aload_n 0 rfl rfl 152 rfl dX2_copyFrom_151 ?_
  refine w_getR (lx_J hX hj) rfl in_X2 14 (by decide) wf_X2_31 (j + 6) rfl 155 rfl dX2_copyFrom_152 ?_
  refine g_iconst 0 156 rfl dX2_copyFrom_155 (by decide) ?_
  refine g_bipush 18 158 rfl dX2_copyFrom_156 (by decide) ?_
  refine w_copy (o := (j0 + 6)) (o1 := (j + 6)) (sp := 0) (dp := 0) (k := 18) (lx_J6 hX hj0) (lx_J6 hX hj) wk_X2_73 wna_copy wst_copy win_System (by decide) (by decide) (by decide) (by decide) (by decide) (by decide) (by decide) 161 rfl dX2_copyFrom_158 ?_
  intro M15
  refine g_aload_n 1 rfl rfl 162 rfl dX2_copyFrom_161 ?_
  refine w_getR (lx_J hX hj0) rfl in_X2 15 (by decide) wf_X2_34 (j0 + 7) rfl 165 rfl dX2_copyFrom_162 ?_
  refine g_iconst 0 166 rfl dX2_copyFrom_165 (by decide) ?_
  refine g_aload_n 0 rfl rfl 167 rfl dX2_copyFrom_166 ?_
  refine w_getR (lx_J hX hj) rfl in_X2 15 (by decide) wf_X2_34 (j + 7) rfl 170 rfl dX2_copyFrom_167 ?_
  refine g_iconst 0 171 rfl dX2_copyFrom_170 (by decide) ?_
  refine g_bipush 36 173 rfl dX2_copyFrom_171 (by decide) ?_
  refine w_copy (o := (j0 + 7)) (o1 := (j + 7)) (sp := 0) (dp := 0) (k := 36) (lx_J7 hX hj0) (lx_J7 hX hj) wk_X2_73 wna_copy wst_copy win_System (by decide) (by decide) (by decide) (by decide) (by decide) (by decide) (by decide) 176 rfl dX2_copyFrom_173 ?_
  intro M16
  refine g_aload_n 1 rfl rfl 177 rfl dX2_copyFrom_176 ?_
  refine w_getR (lx_J hX hj0) rfl in_X2 16 (by decide) wf_X2_37 (j0 + 8) rfl 180 rfl dX2_copyFrom_177 ?_
  refine g_iconst 0 181 rfl dX2_copyFrom_180 (by decide) ?_
  refine g_aload_n 0 rfl rfl 182 rfl dX2_copyFrom_181 ?_
  refine w_getR (lx_J hX hj) rfl in_X2 16 (by decide) wf_X2_37 (j + 8) rfl 185 rfl dX2_copyFrom_182 ?_
  refine g_iconst 0 186 rfl dX2_copyFrom_185 (by decide) ?_
  refine g_bipush 12 188 rfl dX2_copyFrom_186 (by decide) ?_
  refine w_copy (o := (j0 + 8)) (o1 := (j + 8)) (sp := 0) (dp := 0) (k := 12) (lx_J8 hX hj0) (lx_J8 hX hj) wk_X2_73 wna_copy wst_copy win_System (by decide) (by decide) (by decide) (by decide) (by decide) (by decide) (by decide) 191 rfl dX2_copyFrom_188 ?_
  intro M17
  refine g_aload_n 1 rfl rfl 192 rfl dX2_copyFrom_191 ?_
  refine w_getR (lx_J hX hj0) rfl in_X2 17 (by decide) wf_X2_40 (j0 + 9) rfl 195 rfl dX2_copyFrom_192 ?_
  refine g_iconst 0 196 rfl dX2_copyFrom_195 (by decide) ?_
  refine g_aload_n 0 rfl rfl 197 rfl dX2_copyFrom_196 ?_
  refine w_getR (lx_J hX hj) rfl in_X2 17 (by decide) wf_X2_40 (j + 9) rfl 200 rfl dX2_copyFrom_197 ?_
  refine g_iconst 0 201 rfl dX2_copyFrom_200 (by decide) ?_
  refine g_bipush 12 203 rfl dX2_copyFrom_201 (by decide) ?_
  refine w_copy (o := (j0 + 9)) (o1 := (j + 9)) (sp := 0) (dp := 0) (k := 12) (lx_J9 hX hj0) (lx_J9 hX hj) wk_X2_73 wna_copy wst_copy win_System (by decide) (by decide) (by decide) (by decide) (by decide) (by decide) (by decide) 206 rfl dX2_copyFrom_203 ?_
  intro M18
  exact g_vret rfl dX2_copyFrom_206
def fX2_addGroup (M : Mem) (j : Nat) (p0 : Int32) (p1 : Int32) (p2 : Int32) : Option (Int32 × Mem) := bnd (M j 2) (fun x1 => grd (inb x1 6) (bnd (mset M (j + 2) x1.toNatClampNeg p0) (fun M2 => grd (inb x1 6) (bnd (mset M2 (j + 3) x1.toNatClampNeg p1) (fun M3 => jn (fun (a4 : Int32) => bnd (mset M3 j 7 ((M3 j 7) ||| a4)) (fun M6 => bnd (mset M6 j 2 ((M6 j 2) + 1)) (fun M7 => some (x1, M7)))) (fun k5 => if p2 = 0 then (k5 0) else (k5 (1 <<< (x1 &&& 31)))))))))
set_option maxRecDepth 100000 in
set_option maxHeartbeats 4000000 in
theorem c_X2_addGroup {Ω : Wd} (l : Launch) (hO : OkW Ω) (hX : LX Ω) {j : Nat} (hj : isJ j) (M : Mem) (p0 : Int32) (p1 : Int32) (p2 : Int32) : ∀ r, fX2_addGroup M j p0 p1 p2 = some r → Ct l yX2_addGroup (.code yX2_addGroup cX2_addGroup 5 (some .int)) 0 0 Ω [.ref (wA Ω j), .int p0, .int p1, .int p2] M (cvI r) := by
  refine ofG [(0, .ref (wA Ω j)), (1, .int p0), (2, .int p1), (3, .int p2)] hO (by decide) rfl (Nat.le_of_ble_eq_true rfl) rfl ?_
  intro p e s m args below meth c
  unfold fX2_addGroup
  refine g_aload_n 0 rfl rfl 1 rfl dX2_addGroup_0 ?_
  refine w_get (lx_J hX hj) rfl in_X2 2 (by decide) wf_X2_55 rfl 4 rfl dX2_addGroup_1 ?_
  refine g_istore (fun x1 => [(4, .int x1), (0, .ref (wA Ω j)), (1, .int p0), (2, .int p1), (3, .int p2)]) 6 rfl dX2_addGroup_4 (by decide) (fun _ => rfl) ?_
  intro x1
  refine g_aload_n 1 rfl rfl 7 rfl dX2_addGroup_6 ?_
  refine w_getR (lx_J hX hj) rfl in_X2 10 (by decide) wf_X2_19 (j + 2) rfl 10 rfl dX2_addGroup_7 ?_
  refine g_iload 0 rfl 12 rfl dX2_addGroup_10 ?_
  refine g_iload_n 2 rfl rfl 13 rfl dX2_addGroup_12 ?_
  refine w_iast (lx_J2 hX hj) 14 rfl dX2_addGroup_13 ?_
  intro M2
  refine g_aload_n 1 rfl rfl 15 rfl dX2_addGroup_14 ?_
  refine w_getR (lx_J hX hj) rfl in_X2 11 (by decide) wf_X2_22 (j + 3) rfl 18 rfl dX2_addGroup_15 ?_
  refine g_iload 0 rfl 20 rfl dX2_addGroup_18 ?_
  refine g_iload_n 3 rfl rfl 21 rfl dX2_addGroup_20 ?_
  refine w_iast (lx_J3 hX hj) 22 rfl dX2_addGroup_21 ?_
  intro M3
  refine g_aload_n 1 rfl rfl 23 rfl dX2_addGroup_22 ?_
  refine g_dup 24 rfl dX2_addGroup_23 rfl ?_
  refine w_get (lx_J hX hj) rfl in_X2 7 (by decide) wf_X2_67 rfl 27 rfl dX2_addGroup_24 ?_
  refine g_iload_n 4 rfl rfl 28 rfl dX2_addGroup_27 ?_
  refine g_join 39 (fun a4 => [(0, .ref (wA Ω j)), (4, .int x1)]) (fun a4 => [.int a4, .int (M3 j 7), .ref (wA Ω j)]) (fun a4 => M3) ?_ ?_
  · intro a4
    refine g_ior 40 rfl dX2_addGroup_39 ?_
    refine w_put (lx_J hX hj) rfl in_X2 7 (by decide) wf_X2_67 tyX2 tyX2_ok nmX2 rfl rfl rfl rfl 43 rfl dX2_addGroup_40 ?_
    intro M6
    refine g_aload_n 0 rfl rfl 44 rfl dX2_addGroup_43 ?_
    refine g_dup 45 rfl dX2_addGroup_44 rfl ?_
    refine w_get (lx_J hX hj) rfl in_X2 2 (by decide) wf_X2_55 rfl 48 rfl dX2_addGroup_45 ?_
    refine g_iconst 1 49 rfl dX2_addGroup_48 (by decide) ?_
    refine g_iadd 50 rfl dX2_addGroup_49 ?_
    refine w_put (lx_J hX hj) rfl in_X2 2 (by decide) wf_X2_55 tyX2 tyX2_ok nmX2 rfl rfl rfl rfl 53 rfl dX2_addGroup_50 ?_
    intro M7
    refine g_iload 1 rfl 55 rfl dX2_addGroup_53 ?_
    exact g_iret rfl dX2_addGroup_55
  · intro k5 hk5
    refine g_if_eq 38 (by decide) 31 rfl dX2_addGroup_28 ?_ ?_
    · refine g_iconst 0 39 rfl dX2_addGroup_38 (by decide) ?_
      refine g_sub [(0, .ref (wA Ω j)), (4, .int x1)] [1, 0] rfl ?_
      exact hk5 0
    · refine g_iconst 1 32 rfl dX2_addGroup_31 (by decide) ?_
      refine g_iload 0 rfl 34 rfl dX2_addGroup_32 ?_
      refine g_ishl 35 rfl dX2_addGroup_34 ?_
      refine g_goto 39 (by decide) dX2_addGroup_35 ?_
      refine g_sub [(0, .ref (wA Ω j)), (4, .int x1)] [1, 0] rfl ?_
      exact hk5 (1 <<< (x1 &&& 31))
def fX2_isByRequest (M : Mem) (j : Nat) (p0 : Int32) : Option Int32 := jn (fun (a1 : Int32) => grd (isb a1) (some a1)) (fun k2 => if (((M j 7).toUInt32 >>> (p0.toUInt32 &&& Int32.toUInt32 31)).toInt32) &&& 1 = 1 then (k2 1) else (k2 0))
set_option maxRecDepth 100000 in
set_option maxHeartbeats 4000000 in
theorem c_X2_isByRequest {Ω : Wd} (l : Launch) (hO : OkW Ω) (hX : LX Ω) {j : Nat} (hj : isJ j) (M : Mem) (p0 : Int32) : ∀ r, fX2_isByRequest M j p0 = some r → Ct l yX2_isByRequest (.code yX2_isByRequest cX2_isByRequest 2 (some .boolean)) 0 0 Ω [.ref (wA Ω j), .int p0] M ((cpI M) r) := by
  refine ofG [(0, .ref (wA Ω j)), (1, .int p0)] hO (by decide) rfl (Nat.le_of_ble_eq_true rfl) rfl ?_
  intro p e s m args below meth c
  unfold fX2_isByRequest
  refine g_aload_n 0 rfl rfl 1 rfl dX2_isByRequest_0 ?_
  refine w_get (lx_J hX hj) rfl in_X2 7 (by decide) wf_X2_67 rfl 4 rfl dX2_isByRequest_1 ?_
  refine g_iload_n 1 rfl rfl 5 rfl dX2_isByRequest_4 ?_
  refine g_iushr 6 rfl dX2_isByRequest_5 ?_
  refine g_iconst 1 7 rfl dX2_isByRequest_6 (by decide) ?_
  refine g_iand 8 rfl dX2_isByRequest_7 ?_
  refine g_iconst 1 9 rfl dX2_isByRequest_8 (by decide) ?_
  refine g_join 17 (fun a1 => []) (fun a1 => [.int a1]) (fun a1 => M) ?_ ?_
  · intro a1
    exact p_bret rfl dX2_isByRequest_17
  · intro k2 hk2
    refine g_icmp_ne 16 (by decide) 12 rfl dX2_isByRequest_9 ?_ ?_
    · refine g_iconst 1 13 rfl dX2_isByRequest_12 (by decide) ?_
      refine g_goto 17 (by decide) dX2_isByRequest_13 ?_
      refine g_sub [] [] rfl ?_
      exact hk2 1
    · refine g_iconst 0 17 rfl dX2_isByRequest_16 (by decide) ?_
      refine g_sub [] [] rfl ?_
      exact hk2 0
def fX2_isGiven (M : Mem) (j : Nat) (p0 : Int32) : Option Int32 := jn (fun (a1 : Int32) => grd (isb a1) (some a1)) (fun k2 => if (((M j 8).toUInt32 >>> (p0.toUInt32 &&& Int32.toUInt32 31)).toInt32) &&& 1 = 1 then (k2 1) else (k2 0))
set_option maxRecDepth 100000 in
set_option maxHeartbeats 4000000 in
theorem c_X2_isGiven {Ω : Wd} (l : Launch) (hO : OkW Ω) (hX : LX Ω) {j : Nat} (hj : isJ j) (M : Mem) (p0 : Int32) : ∀ r, fX2_isGiven M j p0 = some r → Ct l yX2_isGiven (.code yX2_isGiven cX2_isGiven 2 (some .boolean)) 0 0 Ω [.ref (wA Ω j), .int p0] M ((cpI M) r) := by
  refine ofG [(0, .ref (wA Ω j)), (1, .int p0)] hO (by decide) rfl (Nat.le_of_ble_eq_true rfl) rfl ?_
  intro p e s m args below meth c
  unfold fX2_isGiven
  refine g_aload_n 0 rfl rfl 1 rfl dX2_isGiven_0 ?_
  refine w_get (lx_J hX hj) rfl in_X2 8 (by decide) wf_X2_70 rfl 4 rfl dX2_isGiven_1 ?_
  refine g_iload_n 1 rfl rfl 5 rfl dX2_isGiven_4 ?_
  refine g_iushr 6 rfl dX2_isGiven_5 ?_
  refine g_iconst 1 7 rfl dX2_isGiven_6 (by decide) ?_
  refine g_iand 8 rfl dX2_isGiven_7 ?_
  refine g_iconst 1 9 rfl dX2_isGiven_8 (by decide) ?_
  refine g_join 17 (fun a1 => []) (fun a1 => [.int a1]) (fun a1 => M) ?_ ?_
  · intro a1
    exact p_bret rfl dX2_isGiven_17
  · intro k2 hk2
    refine g_icmp_ne 16 (by decide) 12 rfl dX2_isGiven_9 ?_ ?_
    · refine g_iconst 1 13 rfl dX2_isGiven_12 (by decide) ?_
      refine g_goto 17 (by decide) dX2_isGiven_13 ?_
      refine g_sub [] [] rfl ?_
      exact hk2 1
    · refine g_iconst 0 17 rfl dX2_isGiven_16 (by decide) ?_
      refine g_sub [] [] rfl ?_
      exact hk2 0
def fX2_isWaiting (M : Mem) (j : Nat) (p0 : Int32) : Option Int32 := grd (inb p0 6) (jn (fun (a1 : Int32) => grd (isb a1) (some a1)) (fun k2 => if M (j + 5) p0.toNatClampNeg = (-1) then (k2 0) else (k2 1)))
set_option maxRecDepth 100000 in
set_option maxHeartbeats 4000000 in
theorem c_X2_isWaiting {Ω : Wd} (l : Launch) (hO : OkW Ω) (hX : LX Ω) {j : Nat} (hj : isJ j) (M : Mem) (p0 : Int32) : ∀ r, fX2_isWaiting M j p0 = some r → Ct l yX2_isWaiting (.code yX2_isWaiting cX2_isWaiting 2 (some .boolean)) 0 0 Ω [.ref (wA Ω j), .int p0] M ((cpI M) r) := by
  refine ofG [(0, .ref (wA Ω j)), (1, .int p0)] hO (by decide) rfl (Nat.le_of_ble_eq_true rfl) rfl ?_
  intro p e s m args below meth c
  unfold fX2_isWaiting
  refine g_aload_n 0 rfl rfl 1 rfl dX2_isWaiting_0 ?_
  refine w_getR (lx_J hX hj) rfl in_X2 13 (by decide) wf_X2_28 (j + 5) rfl 4 rfl dX2_isWaiting_1 ?_
  refine g_iload_n 1 rfl rfl 5 rfl dX2_isWaiting_4 ?_
  refine w_iald (lx_J5 hX hj) 6 rfl dX2_isWaiting_5 ?_
  refine g_iconst (-1) 7 rfl dX2_isWaiting_6 (by decide) ?_
  refine g_join 15 (fun a1 => []) (fun a1 => [.int a1]) (fun a1 => M) ?_ ?_
  · intro a1
    exact p_bret rfl dX2_isWaiting_15
  · intro k2 hk2
    refine g_icmp_eq 14 (by decide) 10 rfl dX2_isWaiting_7 ?_ ?_
    · refine g_iconst 0 15 rfl dX2_isWaiting_14 (by decide) ?_
      refine g_sub [] [] rfl ?_
      exact hk2 0
    · refine g_iconst 1 11 rfl dX2_isWaiting_10 (by decide) ?_
      refine g_goto 15 (by decide) dX2_isWaiting_11 ?_
      refine g_sub [] [] rfl ?_
      exact hk2 1
def fX2_isChangePlanned (M : Mem) (j : Nat) : Option Int32 := jn (fun (a1 : Int32) => grd (isb a1) (some a1)) (fun k2 => if M j 4 = (-1) then (k2 0) else (k2 1))
set_option maxRecDepth 100000 in
set_option maxHeartbeats 4000000 in
theorem c_X2_isChangePlanned {Ω : Wd} (l : Launch) (hO : OkW Ω) (hX : LX Ω) {j : Nat} (hj : isJ j) (M : Mem)  : ∀ r, fX2_isChangePlanned M j = some r → Ct l yX2_isChangePlanned (.code yX2_isChangePlanned cX2_isChangePlanned 1 (some .boolean)) 0 0 Ω [.ref (wA Ω j)] M ((cpI M) r) := by
  refine ofG [(0, .ref (wA Ω j))] hO (by decide) rfl (Nat.le_of_ble_eq_true rfl) rfl ?_
  intro p e s m args below meth c
  unfold fX2_isChangePlanned
  refine g_aload_n 0 rfl rfl 1 rfl dX2_isChangePlanned_0 ?_
  refine w_get (lx_J hX hj) rfl in_X2 4 (by decide) wf_X2_9 rfl 4 rfl dX2_isChangePlanned_1 ?_
  refine g_iconst (-1) 5 rfl dX2_isChangePlanned_4 (by decide) ?_
  refine g_join 13 (fun a1 => []) (fun a1 => [.int a1]) (fun a1 => M) ?_ ?_
  · intro a1
    exact p_bret rfl dX2_isChangePlanned_13
  · intro k2 hk2
    refine g_icmp_eq 12 (by decide) 8 rfl dX2_isChangePlanned_5 ?_ ?_
    · refine g_iconst 0 13 rfl dX2_isChangePlanned_12 (by decide) ?_
      refine g_sub [] [] rfl ?_
      exact hk2 0
    · refine g_iconst 1 9 rfl dX2_isChangePlanned_8 (by decide) ?_
      refine g_goto 13 (by decide) dX2_isChangePlanned_9 ?_
      refine g_sub [] [] rfl ?_
      exact hk2 1
def fX2_hasRoadGroup (M : Mem) (j : Nat) (p0 : Int32) : Option Int32 := grd (inb p0 2) (jn (fun (a1 : Int32) => grd (isb a1) (some a1)) (fun k2 => if M (j + 1) p0.toNatClampNeg = (-1) then (k2 0) else (k2 1)))
set_option maxRecDepth 100000 in
set_option maxHeartbeats 4000000 in
theorem c_X2_hasRoadGroup {Ω : Wd} (l : Launch) (hO : OkW Ω) (hX : LX Ω) {j : Nat} (hj : isJ j) (M : Mem) (p0 : Int32) : ∀ r, fX2_hasRoadGroup M j p0 = some r → Ct l yX2_hasRoadGroup (.code yX2_hasRoadGroup cX2_hasRoadGroup 2 (some .boolean)) 0 0 Ω [.ref (wA Ω j), .int p0] M ((cpI M) r) := by
  refine ofG [(0, .ref (wA Ω j)), (1, .int p0)] hO (by decide) rfl (Nat.le_of_ble_eq_true rfl) rfl ?_
  intro p e s m args below meth c
  unfold fX2_hasRoadGroup
  refine g_aload_n 0 rfl rfl 1 rfl dX2_hasRoadGroup_0 ?_
  refine w_getR (lx_J hX hj) rfl in_X2 9 (by decide) wf_X2_15 (j + 1) rfl 4 rfl dX2_hasRoadGroup_1 ?_
  refine g_iload_n 1 rfl rfl 5 rfl dX2_hasRoadGroup_4 ?_
  refine w_iald (lx_J1 hX hj) 6 rfl dX2_hasRoadGroup_5 ?_
  refine g_iconst (-1) 7 rfl dX2_hasRoadGroup_6 (by decide) ?_
  refine g_join 15 (fun a1 => []) (fun a1 => [.int a1]) (fun a1 => M) ?_ ?_
  · intro a1
    exact p_bret rfl dX2_hasRoadGroup_15
  · intro k2 hk2
    refine g_icmp_eq 14 (by decide) 10 rfl dX2_hasRoadGroup_7 ?_ ?_
    · refine g_iconst 0 15 rfl dX2_hasRoadGroup_14 (by decide) ?_
      refine g_sub [] [] rfl ?_
      exact hk2 0
    · refine g_iconst 1 11 rfl dX2_hasRoadGroup_10 (by decide) ?_
      refine g_goto 15 (by decide) dX2_hasRoadGroup_11 ?_
      refine g_sub [] [] rfl ?_
      exact hk2 1
def fX2_clearanceFrom (M : Mem) (j : Nat) (p0 : Int32) (p1 : Int32) : Option Int32 := grd (inb ((p0 * 6) + p1) 36) (some (M (j + 7) ((p0 * 6) + p1).toNatClampNeg))
set_option maxRecDepth 100000 in
set_option maxHeartbeats 4000000 in
theorem c_X2_clearanceFrom {Ω : Wd} (l : Launch) (hO : OkW Ω) (hX : LX Ω) {j : Nat} (hj : isJ j) (M : Mem) (p0 : Int32) (p1 : Int32) : ∀ r, fX2_clearanceFrom M j p0 p1 = some r → Ct l yX2_clearanceFrom (.code yX2_clearanceFrom cX2_clearanceFrom 3 (some .int)) 0 0 Ω [.ref (wA Ω j), .int p0, .int p1] M ((cpI M) r) := by
  refine ofG [(0, .ref (wA Ω j)), (1, .int p0), (2, .int p1)] hO (by decide) rfl (Nat.le_of_ble_eq_true rfl) rfl ?_
  intro p e s m args below meth c
  unfold fX2_clearanceFrom
  refine g_aload_n 0 rfl rfl 1 rfl dX2_clearanceFrom_0 ?_
  refine w_getR (lx_J hX hj) rfl in_X2 15 (by decide) wf_X2_34 (j + 7) rfl 4 rfl dX2_clearanceFrom_1 ?_
  refine g_iload_n 1 rfl rfl 5 rfl dX2_clearanceFrom_4 ?_
  refine g_bipush 6 7 rfl dX2_clearanceFrom_5 (by decide) ?_
  refine g_imul 8 rfl dX2_clearanceFrom_7 ?_
  refine g_iload_n 2 rfl rfl 9 rfl dX2_clearanceFrom_8 ?_
  refine g_iadd 10 rfl dX2_clearanceFrom_9 ?_
  refine w_iald (lx_J7 hX hj) 11 rfl dX2_clearanceFrom_10 ?_
  exact p_iret rfl dX2_clearanceFrom_11
def fX2_areInConflict (M : Mem) (j : Nat) (p0 : Int32) (p1 : Int32) : Option Int32 := clp (fX2_clearanceFrom M j p0 p1) (fun x1 => jn (fun (a2 : Int32) => grd (isb a2) (some a2)) (fun k3 => if x1 = (-1) then (k3 0) else (k3 1)))
set_option maxRecDepth 100000 in
set_option maxHeartbeats 4000000 in
theorem c_X2_areInConflict {Ω : Wd} (l : Launch) (hO : OkW Ω) (hX : LX Ω) {j : Nat} (hj : isJ j) (M : Mem) (p0 : Int32) (p1 : Int32) : ∀ r, fX2_areInConflict M j p0 p1 = some r → Ct l yX2_areInConflict (.code yX2_areInConflict cX2_areInConflict 3 (some .boolean)) 1 22 Ω [.ref (wA Ω j), .int p0, .int p1] M ((cpI M) r) := by
  refine ofG [(0, .ref (wA Ω j)), (1, .int p0), (2, .int p1)] hO (by decide) rfl (Nat.le_of_ble_eq_true rfl) rfl ?_
  intro p e s m args below meth c
  unfold fX2_areInConflict
  refine g_aload_n 0 rfl rfl 1 rfl dX2_areInConflict_0 ?_
  refine g_iload_n 1 rfl rfl 2 rfl dX2_areInConflict_1 ?_
  refine g_iload_n 2 rfl rfl 3 rfl dX2_areInConflict_2 ?_
  refine p_cVI j [.int p0, .int p1] [] (c_X2_clearanceFrom l hO hX hj M p0 p1) dX2_areInConflict_3 uv_X2_83 rfl yk_X2_clearanceFrom ⟨by decide, by decide⟩ (lx_J hX hj).1 (lx_J hX hj).2 rfl (Nat.le_of_ble_eq_true rfl) rfl 6 rfl ?_
  intro x1
  refine g_iconst (-1) 7 rfl dX2_areInConflict_6 (by decide) ?_
  refine g_join 15 (fun a2 => []) (fun a2 => [.int a2]) (fun a2 => M) ?_ ?_
  · intro a2
    exact p_bret rfl dX2_areInConflict_15
  · intro k3 hk3
    refine g_icmp_eq 14 (by decide) 10 rfl dX2_areInConflict_7 ?_ ?_
    · refine g_iconst 0 15 rfl dX2_areInConflict_14 (by decide) ?_
      refine g_sub [] [] rfl ?_
      exact hk3 0
    · refine g_iconst 1 11 rfl dX2_areInConflict_10 (by decide) ?_
      refine g_goto 15 (by decide) dX2_areInConflict_11 ?_
      refine g_sub [] [] rfl ?_
      exact hk3 1
def fX2_setClearances (M : Mem) (j : Nat) (p0 : Int32) (p1 : Int32) (p2 : Int32) (p3 : Int32) : Option (Unit × Mem) := grd (inb ((p0 * 6) + p1) 36) (bnd (mset M (j + 7) ((p0 * 6) + p1).toNatClampNeg p2) (fun M1 => grd (inb ((p1 * 6) + p0) 36) (bnd (mset M1 (j + 7) ((p1 * 6) + p0).toNatClampNeg p3) (fun M2 => some ((), M2)))))
set_option maxRecDepth 100000 in
set_option maxHeartbeats 4000000 in
theorem c_X2_setClearances {Ω : Wd} (l : Launch) (hO : OkW Ω) (hX : LX Ω) {j : Nat} (hj : isJ j) (M : Mem) (p0 : Int32) (p1 : Int32) (p2 : Int32) (p3 : Int32) : ∀ r, fX2_setClearances M j p0 p1 p2 p3 = some r → Ct l yX2_setClearances (.code yX2_setClearances cX2_setClearances 5 none) 0 0 Ω [.ref (wA Ω j), .int p0, .int p1, .int p2, .int p3] M (cvV r) := by
  refine ofG [(0, .ref (wA Ω j)), (1, .int p0), (2, .int p1), (3, .int p2), (4, .int p3)] hO (by decide) rfl (Nat.le_of_ble_eq_true rfl) rfl ?_
  intro p e s m args below meth c
  unfold fX2_setClearances
  refine g_aload_n 0 rfl rfl 1 rfl dX2_setClearances_0 ?_
  refine w_getR (lx_J hX hj) rfl in_X2 15 (by decide) wf_X2_34 (j + 7) rfl 4 rfl dX2_setClearances_1 ?_
  refine g_iload_n 1 rfl rfl 5 rfl dX2_setClearances_4 ?_
  refine g_bipush 6 7 rfl dX2_setClearances_5 (by decide) ?_
  refine g_imul 8 rfl dX2_setClearances_7 ?_
  refine g_iload_n 2 rfl rfl 9 rfl dX2_setClearances_8 ?_
  refine g_iadd 10 rfl dX2_setClearances_9 ?_
  refine g_iload_n 3 rfl rfl 11 rfl dX2_setClearances_10 ?_
  refine w_iast (lx_J7 hX hj) 12 rfl dX2_setClearances_11 ?_
  intro M1
  refine g_aload_n 0 rfl rfl 13 rfl dX2_setClearances_12 ?_
  refine w_getR (lx_J hX hj) rfl in_X2 15 (by decide) wf_X2_34 (j + 7) rfl 16 rfl dX2_setClearances_13 ?_
  refine g_iload_n 2 rfl rfl 17 rfl dX2_setClearances_16 ?_
  refine g_bipush 6 19 rfl dX2_setClearances_17 (by decide) ?_
  refine g_imul 20 rfl dX2_setClearances_19 ?_
  refine g_iload_n 1 rfl rfl 21 rfl dX2_setClearances_20 ?_
  refine g_iadd 22 rfl dX2_setClearances_21 ?_
  refine g_iload 4 rfl 24 rfl dX2_setClearances_22 ?_
  refine w_iast (lx_J7 hX hj) 25 rfl dX2_setClearances_24 ?_
  intro M2
  exact g_vret rfl dX2_setClearances_25
def fX2_firstOf (M : Mem) (j : Nat) (p0 : Int32) (p1 : Int32) : Option Int32 := grd (inb ((p0 * 6) + p1) 12) (some (M (j + 8) ((p0 * 6) + p1).toNatClampNeg))
set_option maxRecDepth 100000 in
set_option maxHeartbeats 4000000 in
theorem c_X2_firstOf {Ω : Wd} (l : Launch) (hO : OkW Ω) (hX : LX Ω) {j : Nat} (hj : isJ j) (M : Mem) (p0 : Int32) (p1 : Int32) : ∀ r, fX2_firstOf M j p0 p1 = some r → Ct l yX2_firstOf (.code yX2_firstOf cX2_firstOf 3 (some .int)) 0 0 Ω [.ref (wA Ω j), .int p0, .int p1] M ((cpI M) r) := by
  refine ofG [(0, .ref (wA Ω j)), (1, .int p0), (2, .int p1)] hO (by decide) rfl (Nat.le_of_ble_eq_true rfl) rfl ?_
  intro p e s m args below meth c
  unfold fX2_firstOf
  refine g_aload_n 0 rfl rfl 1 rfl dX2_firstOf_0 ?_
  refine w_getR (lx_J hX hj) rfl in_X2 16 (by decide) wf_X2_37 (j + 8) rfl 4 rfl dX2_firstOf_1 ?_
  refine g_iload_n 1 rfl rfl 5 rfl dX2_firstOf_4 ?_
  refine g_bipush 6 7 rfl dX2_firstOf_5 (by decide) ?_
  refine g_imul 8 rfl dX2_firstOf_7 ?_
  refine g_iload_n 2 rfl rfl 9 rfl dX2_firstOf_8 ?_
  refine g_iadd 10 rfl dX2_firstOf_9 ?_
  refine w_iald (lx_J8 hX hj) 11 rfl dX2_firstOf_10 ?_
  exact p_iret rfl dX2_firstOf_11
def fX2_lengthOf (M : Mem) (j : Nat) (p0 : Int32) (p1 : Int32) : Option Int32 := grd (inb ((p0 * 6) + p1) 12) (some (M (j + 9) ((p0 * 6) + p1).toNatClampNeg))
set_option maxRecDepth 100000 in
set_option maxHeartbeats 4000000 in
theorem c_X2_lengthOf {Ω : Wd} (l : Launch) (hO : OkW Ω) (hX : LX Ω) {j : Nat} (hj : isJ j) (M : Mem) (p0 : Int32) (p1 : Int32) : ∀ r, fX2_lengthOf M j p0 p1 = some r → Ct l yX2_lengthOf (.code yX2_lengthOf cX2_lengthOf 3 (some .int)) 0 0 Ω [.ref (wA Ω j), .int p0, .int p1] M ((cpI M) r) := by
  refine ofG [(0, .ref (wA Ω j)), (1, .int p0), (2, .int p1)] hO (by decide) rfl (Nat.le_of_ble_eq_true rfl) rfl ?_
  intro p e s m args below meth c
  unfold fX2_lengthOf
  refine g_aload_n 0 rfl rfl 1 rfl dX2_lengthOf_0 ?_
  refine w_getR (lx_J hX hj) rfl in_X2 17 (by decide) wf_X2_40 (j + 9) rfl 4 rfl dX2_lengthOf_1 ?_
  refine g_iload_n 1 rfl rfl 5 rfl dX2_lengthOf_4 ?_
  refine g_bipush 6 7 rfl dX2_lengthOf_5 (by decide) ?_
  refine g_imul 8 rfl dX2_lengthOf_7 ?_
  refine g_iload_n 2 rfl rfl 9 rfl dX2_lengthOf_8 ?_
  refine g_iadd 10 rfl dX2_lengthOf_9 ?_
  refine w_iald (lx_J9 hX hj) 11 rfl dX2_lengthOf_10 ?_
  exact p_iret rfl dX2_lengthOf_11
def fX2_hasGreen (M : Mem) (j : Nat) (p0 : Int32) (p1 : Int32) : Option Int32 := clp (fX2_lengthOf M j p0 p1) (fun x1 => jn (fun (a2 : Int32) => grd (isb a2) (some a2)) (fun k3 => if x1 ≤ 0 then (k3 0) else (k3 1)))
set_option maxRecDepth 100000 in
set_option maxHeartbeats 4000000 in
theorem c_X2_hasGreen {Ω : Wd} (l : Launch) (hO : OkW Ω) (hX : LX Ω) {j : Nat} (hj : isJ j) (M : Mem) (p0 : Int32) (p1 : Int32) : ∀ r, fX2_hasGreen M j p0 p1 = some r → Ct l yX2_hasGreen (.code yX2_hasGreen cX2_hasGreen 3 (some .boolean)) 1 22 Ω [.ref (wA Ω j), .int p0, .int p1] M ((cpI M) r) := by
  refine ofG [(0, .ref (wA Ω j)), (1, .int p0), (2, .int p1)] hO (by decide) rfl (Nat.le_of_ble_eq_true rfl) rfl ?_
  intro p e s m args below meth c
  unfold fX2_hasGreen
  refine g_aload_n 0 rfl rfl 1 rfl dX2_hasGreen_0 ?_
  refine g_iload_n 1 rfl rfl 2 rfl dX2_hasGreen_1 ?_
  refine g_iload_n 2 rfl rfl 3 rfl dX2_hasGreen_2 ?_
  refine p_cVI j [.int p0, .int p1] [] (c_X2_lengthOf l hO hX hj M p0 p1) dX2_hasGreen_3 uv_X2_87 rfl yk_X2_lengthOf ⟨by decide, by decide⟩ (lx_J hX hj).1 (lx_J hX hj).2 rfl (Nat.le_of_ble_eq_true rfl) rfl 6 rfl ?_
  intro x1
  refine g_join 14 (fun a2 => []) (fun a2 => [.int a2]) (fun a2 => M) ?_ ?_
  · intro a2
    exact p_bret rfl dX2_hasGreen_14
  · intro k3 hk3
    refine g_if_le 13 (by decide) 9 rfl dX2_hasGreen_6 ?_ ?_
    · refine g_iconst 0 14 rfl dX2_hasGreen_13 (by decide) ?_
      refine g_sub [] [] rfl ?_
      exact hk3 0
    · refine g_iconst 1 10 rfl dX2_hasGreen_9 (by decide) ?_
      refine g_goto 14 (by decide) dX2_hasGreen_10 ?_
      refine g_sub [] [] rfl ?_
      exact hk3 1
def fX2_setGreen (M : Mem) (j : Nat) (p0 : Int32) (p1 : Int32) (p2 : Int32) (p3 : Int32) : Option (Unit × Mem) := grd (inb ((p0 * 6) + p1) 12) (bnd (mset M (j + 8) ((p0 * 6) + p1).toNatClampNeg p2) (fun M1 => grd (inb ((p0 * 6) + p1) 12) (bnd (mset M1 (j + 9) ((p0 * 6) + p1).toNatClampNeg p3) (fun M2 => some ((), M2)))))
set_option maxRecDepth 100000 in
set_option maxHeartbeats 4000000 in
theorem c_X2_setGreen {Ω : Wd} (l : Launch) (hO : OkW Ω) (hX : LX Ω) {j : Nat} (hj : isJ j) (M : Mem) (p0 : Int32) (p1 : Int32) (p2 : Int32) (p3 : Int32) : ∀ r, fX2_setGreen M j p0 p1 p2 p3 = some r → Ct l yX2_setGreen (.code yX2_setGreen cX2_setGreen 5 none) 0 0 Ω [.ref (wA Ω j), .int p0, .int p1, .int p2, .int p3] M (cvV r) := by
  refine ofG [(0, .ref (wA Ω j)), (1, .int p0), (2, .int p1), (3, .int p2), (4, .int p3)] hO (by decide) rfl (Nat.le_of_ble_eq_true rfl) rfl ?_
  intro p e s m args below meth c
  unfold fX2_setGreen
  refine g_aload_n 0 rfl rfl 1 rfl dX2_setGreen_0 ?_
  refine w_getR (lx_J hX hj) rfl in_X2 16 (by decide) wf_X2_37 (j + 8) rfl 4 rfl dX2_setGreen_1 ?_
  refine g_iload_n 1 rfl rfl 5 rfl dX2_setGreen_4 ?_
  refine g_bipush 6 7 rfl dX2_setGreen_5 (by decide) ?_
  refine g_imul 8 rfl dX2_setGreen_7 ?_
  refine g_iload_n 2 rfl rfl 9 rfl dX2_setGreen_8 ?_
  refine g_iadd 10 rfl dX2_setGreen_9 ?_
  refine g_iload_n 3 rfl rfl 11 rfl dX2_setGreen_10 ?_
  refine w_iast (lx_J8 hX hj) 12 rfl dX2_setGreen_11 ?_
  intro M1
  refine g_aload_n 0 rfl rfl 13 rfl dX2_setGreen_12 ?_
  refine w_getR (lx_J hX hj) rfl in_X2 17 (by decide) wf_X2_40 (j + 9) rfl 16 rfl dX2_setGreen_13 ?_
  refine g_iload_n 1 rfl rfl 17 rfl dX2_setGreen_16 ?_
  refine g_bipush 6 19 rfl dX2_setGreen_17 (by decide) ?_
  refine g_imul 20 rfl dX2_setGreen_19 ?_
  refine g_iload_n 2 rfl rfl 21 rfl dX2_setGreen_20 ?_
  refine g_iadd 22 rfl dX2_setGreen_21 ?_
  refine g_iload 4 rfl 24 rfl dX2_setGreen_22 ?_
  refine w_iast (lx_J9 hX hj) 25 rfl dX2_setGreen_24 ?_
  intro M2
  exact g_vret rfl dX2_setGreen_25
def fX2_conflictSet_L1 (j : Nat) (p0 : Int32) (M : Mem) (k2 : (Int32 × Int32) → Option Int32) (a1 : Int32 × Int32) : Option Int32 := if M j 2 ≤ a1.2 then (some a1.1) else (clp (fX2_areInConflict M j p0 a1.2) (fun x3 => jn (fun (a4 : Int32) => bnd (a1.1 ||| a4) (fun x6 => bnd (a1.2 + 1) (fun x7 => k2 (x6, x7)))) (fun k5 => if x3 = 0 then (k5 0) else (k5 (1 <<< (a1.2 &&& 31))))))
def fX2_conflictSet (M : Mem) (j : Nat) (p0 : Int32) : Option Int32 := lp (fX2_conflictSet_L1 j p0 M) FU (0, 0)
set_option maxRecDepth 100000 in
set_option maxHeartbeats 4000000 in
theorem c_X2_conflictSet {Ω : Wd} (l : Launch) (hO : OkW Ω) (hX : LX Ω) {j : Nat} (hj : isJ j) (M : Mem) (p0 : Int32) : ∀ r, fX2_conflictSet M j p0 = some r → Ct l yX2_conflictSet (.code yX2_conflictSet cX2_conflictSet 4 (some .int)) 2 44 Ω [.ref (wA Ω j), .int p0] M ((cpI M) r) := by
  refine ofG [(0, .ref (wA Ω j)), (1, .int p0)] hO (by decide) rfl (Nat.le_of_ble_eq_true rfl) rfl ?_
  intro p e s m args below meth c
  unfold fX2_conflictSet
  refine g_iconst 0 1 rfl dX2_conflictSet_0 (by decide) ?_
  refine g_istore_nA [(2, .int 0), (0, .ref (wA Ω j)), (1, .int p0)] rfl 2 rfl dX2_conflictSet_1 (by decide) rfl ?_
  refine g_iconst 0 3 rfl dX2_conflictSet_2 (by decide) ?_
  refine g_istore_nA [(3, .int 0), (2, .int 0), (0, .ref (wA Ω j)), (1, .int p0)] rfl 4 rfl dX2_conflictSet_3 (by decide) rfl ?_
  refine g_sub [(0, .ref (wA Ω j)), (1, .int p0), (2, .int 0), (3, .int 0)] [2, 3, 1, 0] rfl ?_
  refine g_loop 4 (fun a1 => [(0, .ref (wA Ω j)), (1, .int p0), (2, .int a1.1), (3, .int a1.2)]) (fun _ => []) (fun a1 => M) ?_ FU (0, 0)
  intro k2 hk2 a1
  unfold fX2_conflictSet_L1
  refine g_iload_n 3 rfl rfl 5 rfl dX2_conflictSet_4 ?_
  refine g_aload_n 0 rfl rfl 6 rfl dX2_conflictSet_5 ?_
  refine w_get (lx_J hX hj) rfl in_X2 2 (by decide) wf_X2_55 rfl 9 rfl dX2_conflictSet_6 ?_
  refine g_icmp_ge 37 (by decide) 12 rfl dX2_conflictSet_9 ?_ ?_
  · refine g_iload_n 2 rfl rfl 38 rfl dX2_conflictSet_37 ?_
    exact p_iret rfl dX2_conflictSet_38
  · refine g_iload_n 2 rfl rfl 13 rfl dX2_conflictSet_12 ?_
    refine g_aload_n 0 rfl rfl 14 rfl dX2_conflictSet_13 ?_
    refine g_iload_n 1 rfl rfl 15 rfl dX2_conflictSet_14 ?_
    refine g_iload_n 3 rfl rfl 16 rfl dX2_conflictSet_15 ?_
    refine p_cVI j [.int p0, .int a1.2] [.int a1.1] (c_X2_areInConflict l hO hX hj M p0 a1.2) dX2_conflictSet_16 uv_X2_111 rfl yk_X2_areInConflict ⟨by decide, by decide⟩ (lx_J hX hj).1 (lx_J hX hj).2 rfl (Nat.le_of_ble_eq_true rfl) rfl 19 rfl ?_
    intro x3
    refine g_join 29 (fun a4 => [(0, .ref (wA Ω j)), (1, .int p0), (3, .int a1.2)]) (fun a4 => [.int a4, .int a1.1]) (fun a4 => M) ?_ ?_
    · intro a4
      refine g_ior 30 rfl dX2_conflictSet_29 ?_
      refine g_istore_n (fun x6 => [(2, .int x6), (0, .ref (wA Ω j)), (1, .int p0), (3, .int a1.2)]) rfl 31 rfl dX2_conflictSet_30 (by decide) (fun _ => rfl) ?_
      intro x6
      refine g_iinc 3 rfl 1 (by decide) (fun x7 => [(3, .int x7), (2, .int x6), (0, .ref (wA Ω j)), (1, .int p0)]) 34 rfl dX2_conflictSet_31 (by decide) (fun _ => rfl) ?_
      intro x7
      refine g_goto 4 (by decide) dX2_conflictSet_34 ?_
      refine g_sub [(0, .ref (wA Ω j)), (1, .int p0), (2, .int x6), (3, .int x7)] [2, 3, 1, 0] rfl ?_
      exact hk2 (x6, x7)
    · intro k5 hk5
      refine g_if_eq 28 (by decide) 22 rfl dX2_conflictSet_19 ?_ ?_
      · refine g_iconst 0 29 rfl dX2_conflictSet_28 (by decide) ?_
        refine g_sub [(0, .ref (wA Ω j)), (1, .int p0), (3, .int a1.2)] [0, 1, 3] rfl ?_
        exact hk5 0
      · refine g_iconst 1 23 rfl dX2_conflictSet_22 (by decide) ?_
        refine g_iload_n 3 rfl rfl 24 rfl dX2_conflictSet_23 ?_
        refine g_ishl 25 rfl dX2_conflictSet_24 ?_
        refine g_goto 29 (by decide) dX2_conflictSet_25 ?_
        refine g_sub [(0, .ref (wA Ω j)), (1, .int p0), (3, .int a1.2)] [0, 1, 3] rfl ?_
        exact hk5 (1 <<< (a1.2 &&& 31))
def fX2_greenCount_L1 (j : Nat) (p0 : Int32) (M : Mem) (k2 : (Int32 × Int32) → Option Int32) (a1 : Int32 × Int32) : Option Int32 := if M j 2 ≤ a1.2 then (some a1.1) else (clp (fX2_hasGreen M j p0 a1.2) (fun x3 => jn (fun (a4 : Int32) => bnd (a1.1 + a4) (fun x6 => bnd (a1.2 + 1) (fun x7 => k2 (x6, x7)))) (fun k5 => if x3 = 0 then (k5 0) else (k5 1))))
def fX2_greenCount (M : Mem) (j : Nat) (p0 : Int32) : Option Int32 := lp (fX2_greenCount_L1 j p0 M) FU (0, 0)
set_option maxRecDepth 100000 in
set_option maxHeartbeats 4000000 in
theorem c_X2_greenCount {Ω : Wd} (l : Launch) (hO : OkW Ω) (hX : LX Ω) {j : Nat} (hj : isJ j) (M : Mem) (p0 : Int32) : ∀ r, fX2_greenCount M j p0 = some r → Ct l yX2_greenCount (.code yX2_greenCount cX2_greenCount 4 (some .int)) 2 44 Ω [.ref (wA Ω j), .int p0] M ((cpI M) r) := by
  refine ofG [(0, .ref (wA Ω j)), (1, .int p0)] hO (by decide) rfl (Nat.le_of_ble_eq_true rfl) rfl ?_
  intro p e s m args below meth c
  unfold fX2_greenCount
  refine g_iconst 0 1 rfl dX2_greenCount_0 (by decide) ?_
  refine g_istore_nA [(2, .int 0), (0, .ref (wA Ω j)), (1, .int p0)] rfl 2 rfl dX2_greenCount_1 (by decide) rfl ?_
  refine g_iconst 0 3 rfl dX2_greenCount_2 (by decide) ?_
  refine g_istore_nA [(3, .int 0), (2, .int 0), (0, .ref (wA Ω j)), (1, .int p0)] rfl 4 rfl dX2_greenCount_3 (by decide) rfl ?_
  refine g_sub [(0, .ref (wA Ω j)), (1, .int p0), (2, .int 0), (3, .int 0)] [2, 3, 1, 0] rfl ?_
  refine g_loop 4 (fun a1 => [(0, .ref (wA Ω j)), (1, .int p0), (2, .int a1.1), (3, .int a1.2)]) (fun _ => []) (fun a1 => M) ?_ FU (0, 0)
  intro k2 hk2 a1
  unfold fX2_greenCount_L1
  refine g_iload_n 3 rfl rfl 5 rfl dX2_greenCount_4 ?_
  refine g_aload_n 0 rfl rfl 6 rfl dX2_greenCount_5 ?_
  refine w_get (lx_J hX hj) rfl in_X2 2 (by decide) wf_X2_55 rfl 9 rfl dX2_greenCount_6 ?_
  refine g_icmp_ge 35 (by decide) 12 rfl dX2_greenCount_9 ?_ ?_
  · refine g_iload_n 2 rfl rfl 36 rfl dX2_greenCount_35 ?_
    exact p_iret rfl dX2_greenCount_36
  · refine g_iload_n 2 rfl rfl 13 rfl dX2_greenCount_12 ?_
    refine g_aload_n 0 rfl rfl 14 rfl dX2_greenCount_13 ?_
    refine g_iload_n 1 rfl rfl 15 rfl dX2_greenCount_14 ?_
    refine g_iload_n 3 rfl rfl 16 rfl dX2_greenCount_15 ?_
    refine p_cVI j [.int p0, .int a1.2] [.int a1.1] (c_X2_hasGreen l hO hX hj M p0 a1.2) dX2_greenCount_16 uv_X2_123 rfl yk_X2_hasGreen ⟨by decide, by decide⟩ (lx_J hX hj).1 (lx_J hX hj).2 rfl (Nat.le_of_ble_eq_true rfl) rfl 19 rfl ?_
    intro x3
    refine g_join 27 (fun a4 => [(0, .ref (wA Ω j)), (1, .int p0), (3, .int a1.2)]) (fun a4 => [.int a4, .int a1.1]) (fun a4 => M) ?_ ?_
    · intro a4
      refine g_iadd 28 rfl dX2_greenCount_27 ?_
      refine g_istore_n (fun x6 => [(2, .int x6), (0, .ref (wA Ω j)), (1, .int p0), (3, .int a1.2)]) rfl 29 rfl dX2_greenCount_28 (by decide) (fun _ => rfl) ?_
      intro x6
      refine g_iinc 3 rfl 1 (by decide) (fun x7 => [(3, .int x7), (2, .int x6), (0, .ref (wA Ω j)), (1, .int p0)]) 32 rfl dX2_greenCount_29 (by decide) (fun _ => rfl) ?_
      intro x7
      refine g_goto 4 (by decide) dX2_greenCount_32 ?_
      refine g_sub [(0, .ref (wA Ω j)), (1, .int p0), (2, .int x6), (3, .int x7)] [2, 3, 1, 0] rfl ?_
      exact hk2 (x6, x7)
    · intro k5 hk5
      refine g_if_eq 26 (by decide) 22 rfl dX2_greenCount_19 ?_ ?_
      · refine g_iconst 0 27 rfl dX2_greenCount_26 (by decide) ?_
        refine g_sub [(0, .ref (wA Ω j)), (1, .int p0), (3, .int a1.2)] [0, 1, 3] rfl ?_
        exact hk5 0
      · refine g_iconst 1 23 rfl dX2_greenCount_22 (by decide) ?_
        refine g_goto 27 (by decide) dX2_greenCount_23 ?_
        refine g_sub [(0, .ref (wA Ω j)), (1, .int p0), (3, .int a1.2)] [0, 1, 3] rfl ?_
        exact hk5 1
def fX2_waitingCount_L1 (j : Nat) (M : Mem) (k2 : (Int32 × Int32) → Option Int32) (a1 : Int32 × Int32) : Option Int32 := if M j 2 ≤ a1.2 then (some a1.1) else (clp (fX2_isWaiting M j a1.2) (fun x3 => jn (fun (a4 : Int32) => bnd (a1.1 + a4) (fun x6 => bnd (a1.2 + 1) (fun x7 => k2 (x6, x7)))) (fun k5 => if x3 = 0 then (k5 0) else (k5 1))))
def fX2_waitingCount (M : Mem) (j : Nat) : Option Int32 := lp (fX2_waitingCount_L1 j M) FU (0, 0)
set_option maxRecDepth 100000 in
set_option maxHeartbeats 4000000 in
theorem c_X2_waitingCount {Ω : Wd} (l : Launch) (hO : OkW Ω) (hX : LX Ω) {j : Nat} (hj : isJ j) (M : Mem)  : ∀ r, fX2_waitingCount M j = some r → Ct l yX2_waitingCount (.code yX2_waitingCount cX2_waitingCount 3 (some .int)) 1 21 Ω [.ref (wA Ω j)] M ((cpI M) r) := by
  refine ofG [(0, .ref (wA Ω j))] hO (by decide) rfl (Nat.le_of_ble_eq_true rfl) rfl ?_
  intro p e s m args below meth c
  unfold fX2_waitingCount
  refine g_iconst 0 1 rfl dX2_waitingCount_0 (by decide) ?_
  refine g_istore_nA [(1, .int 0), (0, .ref (wA Ω j))] rfl 2 rfl dX2_waitingCount_1 (by decide) rfl ?_
  refine g_iconst 0 3 rfl dX2_waitingCount_2 (by decide) ?_
  refine g_istore_nA [(2, .int 0), (1, .int 0), (0, .ref (wA Ω j))] rfl 4 rfl dX2_waitingCount_3 (by decide) rfl ?_
  refine g_sub [(0, .ref (wA Ω j)), (1, .int 0), (2, .int 0)] [2, 1, 0] rfl ?_
  refine g_loop 4 (fun a1 => [(0, .ref (wA Ω j)), (1, .int a1.1), (2, .int a1.2)]) (fun _ => []) (fun a1 => M) ?_ FU (0, 0)
  intro k2 hk2 a1
  unfold fX2_waitingCount_L1
  refine g_iload_n 2 rfl rfl 5 rfl dX2_waitingCount_4 ?_
  refine g_aload_n 0 rfl rfl 6 rfl dX2_waitingCount_5 ?_
  refine w_get (lx_J hX hj) rfl in_X2 2 (by decide) wf_X2_55 rfl 9 rfl dX2_waitingCount_6 ?_
  refine g_icmp_ge 34 (by decide) 12 rfl dX2_waitingCount_9 ?_ ?_
  · refine g_iload_n 1 rfl rfl 35 rfl dX2_waitingCount_34 ?_
    exact p_iret rfl dX2_waitingCount_35
  · refine g_iload_n 1 rfl rfl 13 rfl dX2_waitingCount_12 ?_
    refine g_aload_n 0 rfl rfl 14 rfl dX2_waitingCount_13 ?_
    refine g_iload_n 2 rfl rfl 15 rfl dX2_waitingCount_14 ?_
    refine p_cVI j [.int a1.2] [.int a1.1] (c_X2_isWaiting l hO hX hj M a1.2) dX2_waitingCount_15 uv_X2_126 rfl yk_X2_isWaiting ⟨by decide, by decide⟩ (lx_J hX hj).1 (lx_J hX hj).2 rfl (Nat.le_of_ble_eq_true rfl) rfl 18 rfl ?_
    intro x3
    refine g_join 26 (fun a4 => [(0, .ref (wA Ω j)), (2, .int a1.2)]) (fun a4 => [.int a4, .int a1.1]) (fun a4 => M) ?_ ?_
    · intro a4
      refine g_iadd 27 rfl dX2_waitingCount_26 ?_
      refine g_istore_n (fun x6 => [(1, .int x6), (0, .ref (wA Ω j)), (2, .int a1.2)]) rfl 28 rfl dX2_waitingCount_27 (by decide) (fun _ => rfl) ?_
      intro x6
      refine g_iinc 2 rfl 1 (by decide) (fun x7 => [(2, .int x7), (1, .int x6), (0, .ref (wA Ω j))]) 31 rfl dX2_waitingCount_28 (by decide) (fun _ => rfl) ?_
      intro x7
      refine g_goto 4 (by decide) dX2_waitingCount_31 ?_
      refine g_sub [(0, .ref (wA Ω j)), (1, .int x6), (2, .int x7)] [2, 1, 0] rfl ?_
      exact hk2 (x6, x7)
    · intro k5 hk5
      refine g_if_eq 25 (by decide) 21 rfl dX2_waitingCount_18 ?_ ?_
      · refine g_iconst 0 26 rfl dX2_waitingCount_25 (by decide) ?_
        refine g_sub [(0, .ref (wA Ω j)), (2, .int a1.2)] [0, 2] rfl ?_
        exact hk5 0
      · refine g_iconst 1 22 rfl dX2_waitingCount_21 (by decide) ?_
        refine g_goto 26 (by decide) dX2_waitingCount_22 ?_
        refine g_sub [(0, .ref (wA Ω j)), (2, .int a1.2)] [0, 2] rfl ?_
        exact hk5 1
def fX2_litSum_L1 (j : Nat) (M : Mem) (k2 : (Int32 × Int32) → Option Int32) (a1 : Int32 × Int32) : Option Int32 := if M j 2 ≤ a1.2 then (some a1.1) else (grd (inb a1.2 6) (bnd (a1.1 + (M (j + 4) a1.2.toNatClampNeg)) (fun x3 => bnd (a1.2 + 1) (fun x4 => k2 (x3, x4)))))
def fX2_litSum (M : Mem) (j : Nat) : Option Int32 := lp (fX2_litSum_L1 j M) FU (0, 0)
set_option maxRecDepth 100000 in
set_option maxHeartbeats 4000000 in
theorem c_X2_litSum {Ω : Wd} (l : Launch) (hO : OkW Ω) (hX : LX Ω) {j : Nat} (hj : isJ j) (M : Mem)  : ∀ r, fX2_litSum M j = some r → Ct l yX2_litSum (.code yX2_litSum cX2_litSum 3 (some .int)) 0 0 Ω [.ref (wA Ω j)] M ((cpI M) r) := by
  refine ofG [(0, .ref (wA Ω j))] hO (by decide) rfl (Nat.le_of_ble_eq_true rfl) rfl ?_
  intro p e s m args below meth c
  unfold fX2_litSum
  refine g_iconst 0 1 rfl dX2_litSum_0 (by decide) ?_
  refine g_istore_nA [(1, .int 0), (0, .ref (wA Ω j))] rfl 2 rfl dX2_litSum_1 (by decide) rfl ?_
  refine g_iconst 0 3 rfl dX2_litSum_2 (by decide) ?_
  refine g_istore_nA [(2, .int 0), (1, .int 0), (0, .ref (wA Ω j))] rfl 4 rfl dX2_litSum_3 (by decide) rfl ?_
  refine g_sub [(0, .ref (wA Ω j)), (1, .int 0), (2, .int 0)] [2, 1, 0] rfl ?_
  refine g_loop 4 (fun a1 => [(0, .ref (wA Ω j)), (1, .int a1.1), (2, .int a1.2)]) (fun _ => []) (fun a1 => M) ?_ FU (0, 0)
  intro k2 hk2 a1
  unfold fX2_litSum_L1
  refine g_iload_n 2 rfl rfl 5 rfl dX2_litSum_4 ?_
  refine g_aload_n 0 rfl rfl 6 rfl dX2_litSum_5 ?_
  refine w_get (lx_J hX hj) rfl in_X2 2 (by decide) wf_X2_55 rfl 9 rfl dX2_litSum_6 ?_
  refine g_icmp_ge 27 (by decide) 12 rfl dX2_litSum_9 ?_ ?_
  · refine g_iload_n 1 rfl rfl 28 rfl dX2_litSum_27 ?_
    exact p_iret rfl dX2_litSum_28
  · refine g_iload_n 1 rfl rfl 13 rfl dX2_litSum_12 ?_
    refine g_aload_n 0 rfl rfl 14 rfl dX2_litSum_13 ?_
    refine w_getR (lx_J hX hj) rfl in_X2 12 (by decide) wf_X2_25 (j + 4) rfl 17 rfl dX2_litSum_14 ?_
    refine g_iload_n 2 rfl rfl 18 rfl dX2_litSum_17 ?_
    refine w_iald (lx_J4 hX hj) 19 rfl dX2_litSum_18 ?_
    refine g_iadd 20 rfl dX2_litSum_19 ?_
    refine g_istore_n (fun x3 => [(1, .int x3), (0, .ref (wA Ω j)), (2, .int a1.2)]) rfl 21 rfl dX2_litSum_20 (by decide) (fun _ => rfl) ?_
    intro x3
    refine g_iinc 2 rfl 1 (by decide) (fun x4 => [(2, .int x4), (1, .int x3), (0, .ref (wA Ω j))]) 24 rfl dX2_litSum_21 (by decide) (fun _ => rfl) ?_
    intro x4
    refine g_goto 4 (by decide) dX2_litSum_24 ?_
    refine g_sub [(0, .ref (wA Ω j)), (1, .int x3), (2, .int x4)] [2, 1, 0] rfl ?_
    exact hk2 (x3, x4)
def fX2_headCount_L1 (j : Nat) (p0 : Int32) (M : Mem) (k2 : (Int32 × Int32) → Option Int32) (a1 : Int32 × Int32) : Option Int32 := if 3 ≤ a1.2 then (some a1.1) else (grd (inb ((p0 * 3) + a1.2) 18) (jn (fun (a3 : Int32) => bnd (a1.1 + a3) (fun x5 => bnd (a1.2 + 1) (fun x6 => k2 (x5, x6)))) (fun k4 => if M (j + 6) ((p0 * 3) + a1.2).toNatClampNeg = (-1) then (k4 0) else (k4 1))))
def fX2_headCount (M : Mem) (j : Nat) (p0 : Int32) : Option Int32 := lp (fX2_headCount_L1 j p0 M) FU (0, 0)
set_option maxRecDepth 100000 in
set_option maxHeartbeats 4000000 in
theorem c_X2_headCount {Ω : Wd} (l : Launch) (hO : OkW Ω) (hX : LX Ω) {j : Nat} (hj : isJ j) (M : Mem) (p0 : Int32) : ∀ r, fX2_headCount M j p0 = some r → Ct l yX2_headCount (.code yX2_headCount cX2_headCount 4 (some .int)) 0 0 Ω [.ref (wA Ω j), .int p0] M ((cpI M) r) := by
  refine ofG [(0, .ref (wA Ω j)), (1, .int p0)] hO (by decide) rfl (Nat.le_of_ble_eq_true rfl) rfl ?_
  intro p e s m args below meth c
  unfold fX2_headCount
  refine g_iconst 0 1 rfl dX2_headCount_0 (by decide) ?_
  refine g_istore_nA [(2, .int 0), (0, .ref (wA Ω j)), (1, .int p0)] rfl 2 rfl dX2_headCount_1 (by decide) rfl ?_
  refine g_iconst 0 3 rfl dX2_headCount_2 (by decide) ?_
  refine g_istore_nA [(3, .int 0), (2, .int 0), (0, .ref (wA Ω j)), (1, .int p0)] rfl 4 rfl dX2_headCount_3 (by decide) rfl ?_
  refine g_sub [(0, .ref (wA Ω j)), (1, .int p0), (2, .int 0), (3, .int 0)] [2, 3, 1, 0] rfl ?_
  refine g_loop 4 (fun a1 => [(0, .ref (wA Ω j)), (1, .int p0), (2, .int a1.1), (3, .int a1.2)]) (fun _ => []) (fun a1 => M) ?_ FU (0, 0)
  intro k2 hk2 a1
  unfold fX2_headCount_L1
  refine g_iload_n 3 rfl rfl 5 rfl dX2_headCount_4 ?_
  refine g_iconst 3 6 rfl dX2_headCount_5 (by decide) ?_
  refine g_icmp_ge 37 (by decide) 9 rfl dX2_headCount_6 ?_ ?_
  · refine g_iload_n 2 rfl rfl 38 rfl dX2_headCount_37 ?_
    exact p_iret rfl dX2_headCount_38
  · refine g_iload_n 2 rfl rfl 10 rfl dX2_headCount_9 ?_
    refine g_aload_n 0 rfl rfl 11 rfl dX2_headCount_10 ?_
    refine w_getR (lx_J hX hj) rfl in_X2 14 (by decide) wf_X2_31 (j + 6) rfl 14 rfl dX2_headCount_11 ?_
    refine g_iload_n 1 rfl rfl 15 rfl dX2_headCount_14 ?_
    refine g_iconst 3 16 rfl dX2_headCount_15 (by decide) ?_
    refine g_imul 17 rfl dX2_headCount_16 ?_
    refine g_iload_n 3 rfl rfl 18 rfl dX2_headCount_17 ?_
    refine g_iadd 19 rfl dX2_headCount_18 ?_
    refine w_iald (lx_J6 hX hj) 20 rfl dX2_headCount_19 ?_
    refine g_iconst (-1) 21 rfl dX2_headCount_20 (by decide) ?_
    refine g_join 29 (fun a3 => [(0, .ref (wA Ω j)), (1, .int p0), (3, .int a1.2)]) (fun a3 => [.int a3, .int a1.1]) (fun a3 => M) ?_ ?_
    · intro a3
      refine g_iadd 30 rfl dX2_headCount_29 ?_
      refine g_istore_n (fun x5 => [(2, .int x5), (0, .ref (wA Ω j)), (1, .int p0), (3, .int a1.2)]) rfl 31 rfl dX2_headCount_30 (by decide) (fun _ => rfl) ?_
      intro x5
      refine g_iinc 3 rfl 1 (by decide) (fun x6 => [(3, .int x6), (2, .int x5), (0, .ref (wA Ω j)), (1, .int p0)]) 34 rfl dX2_headCount_31 (by decide) (fun _ => rfl) ?_
      intro x6
      refine g_goto 4 (by decide) dX2_headCount_34 ?_
      refine g_sub [(0, .ref (wA Ω j)), (1, .int p0), (2, .int x5), (3, .int x6)] [2, 3, 1, 0] rfl ?_
      exact hk2 (x5, x6)
    · intro k4 hk4
      refine g_icmp_ne 28 (by decide) 24 rfl dX2_headCount_21 ?_ ?_
      · refine g_iconst 0 25 rfl dX2_headCount_24 (by decide) ?_
        refine g_goto 29 (by decide) dX2_headCount_25 ?_
        refine g_sub [(0, .ref (wA Ω j)), (1, .int p0), (3, .int a1.2)] [0, 1, 3] rfl ?_
        exact hk4 0
      · refine g_iconst 1 29 rfl dX2_headCount_28 (by decide) ?_
        refine g_sub [(0, .ref (wA Ω j)), (1, .int p0), (3, .int a1.2)] [0, 1, 3] rfl ?_
        exact hk4 1
def fX2_takesHead (M : Mem) (j : Nat) (p0 : Int32) (p1 : Int32) : Option Int32 := grd (inb p0 6) (if M (j + 2) p0.toNatClampNeg = 0 then (jn (fun (a3 : Int32) => grd (isb a3) (some a3)) (fun k4 => if 1 < p1 then (k4 0) else (k4 1))) else (if M (j + 2) p0.toNatClampNeg = 1 then (jn (fun (a1 : Int32) => grd (isb a1) (some a1)) (fun k2 => if p1 = 2 then (k2 1) else (k2 0))) else (some 1)))
set_option maxRecDepth 100000 in
set_option maxHeartbeats 4000000 in
theorem c_X2_takesHead {Ω : Wd} (l : Launch) (hO : OkW Ω) (hX : LX Ω) {j : Nat} (hj : isJ j) (M : Mem) (p0 : Int32) (p1 : Int32) : ∀ r, fX2_takesHead M j p0 p1 = some r → Ct l yX2_takesHead (.code yX2_takesHead cX2_takesHead 3 (some .boolean)) 0 0 Ω [.ref (wA Ω j), .int p0, .int p1] M ((cpI M) r) := by
  refine ofG [(0, .ref (wA Ω j)), (1, .int p0), (2, .int p1)] hO (by decide) rfl (Nat.le_of_ble_eq_true rfl) rfl ?_
  intro p e s m args below meth c
  unfold fX2_takesHead
  refine g_aload_n 0 rfl rfl 1 rfl dX2_takesHead_0 ?_
  refine w_getR (lx_J hX hj) rfl in_X2 10 (by decide) wf_X2_19 (j + 2) rfl 4 rfl dX2_takesHead_1 ?_
  refine g_iload_n 1 rfl rfl 5 rfl dX2_takesHead_4 ?_
  refine w_iald (lx_J2 hX hj) 6 rfl dX2_takesHead_5 ?_
  refine g_case ?_ ?_
  · intro h6_0
    refine g_look (off := 26) 32 (by decide) (by rw [h6_0]; decide) (by decide) dX2_takesHead_6 ?_
    refine g_iload_n 2 rfl rfl 33 rfl dX2_takesHead_32 ?_
    refine g_iconst 1 34 rfl dX2_takesHead_33 (by decide) ?_
    refine g_join 42 (fun a3 => []) (fun a3 => [.int a3]) (fun a3 => M) ?_ ?_
    · intro a3
      exact p_bret rfl dX2_takesHead_42
    · intro k4 hk4
      refine g_icmp_gt 41 (by decide) 37 rfl dX2_takesHead_34 ?_ ?_
      · refine g_iconst 0 42 rfl dX2_takesHead_41 (by decide) ?_
        refine g_sub [] [] rfl ?_
        exact hk4 0
      · refine g_iconst 1 38 rfl dX2_takesHead_37 (by decide) ?_
        refine g_goto 42 (by decide) dX2_takesHead_38 ?_
        refine g_sub [] [] rfl ?_
        exact hk4 1
  · intro h6_0
    refine g_case ?_ ?_
    · intro h6_1
      refine g_look (off := 37) 43 (by decide) (by rw [h6_1]; decide) (by decide) dX2_takesHead_6 ?_
      refine g_iload_n 2 rfl rfl 44 rfl dX2_takesHead_43 ?_
      refine g_iconst 2 45 rfl dX2_takesHead_44 (by decide) ?_
      refine g_join 53 (fun a1 => []) (fun a1 => [.int a1]) (fun a1 => M) ?_ ?_
      · intro a1
        exact p_bret rfl dX2_takesHead_53
      · intro k2 hk2
        refine g_icmp_ne 52 (by decide) 48 rfl dX2_takesHead_45 ?_ ?_
        · refine g_iconst 1 49 rfl dX2_takesHead_48 (by decide) ?_
          refine g_goto 53 (by decide) dX2_takesHead_49 ?_
          refine g_sub [] [] rfl ?_
          exact hk2 1
        · refine g_iconst 0 53 rfl dX2_takesHead_52 (by decide) ?_
          refine g_sub [] [] rfl ?_
          exact hk2 0
    · intro h6_1
      refine g_look (off := 48) 54 (by decide) ((lv_osw h6_0 rfl).trans ((lv_osw h6_1 rfl).trans (rfl))) (by decide) dX2_takesHead_6 ?_
      refine g_iconst 1 55 rfl dX2_takesHead_54 (by decide) ?_
      exact p_zret rfl rfl dX2_takesHead_55
def fX2_decideRequest (M : Mem) (j : Nat) (p0 : Int32) (p1 : Int32) : Option (Unit × Mem) := clp (fX2_isWaiting M j p0) (fun x1 => if x1 = 0 then (bnd (mset M j 8 ((M j 8) &&& ((1 <<< (p0 &&& 31)) ^^^ (-1)))) (fun M6 => some ((), M6))) else (bnd (mset M j 8 ((M j 8) ||| (1 <<< (p0 &&& 31)))) (fun M2 => bnd (mset M2 j 5 ((M2 j 5) + 1)) (fun M3 => grd (inb p0 6) (bnd (mset M3 j 6 ((M3 j 6) + (p1 - (M3 (j + 5) p0.toNatClampNeg)))) (fun M4 => grd (inb p0 6) (bnd (mset M4 (j + 5) p0.toNatClampNeg (-1)) (fun M5 => some ((), M5)))))))))
set_option maxRecDepth 100000 in
set_option maxHeartbeats 4000000 in
theorem c_X2_decideRequest {Ω : Wd} (l : Launch) (hO : OkW Ω) (hX : LX Ω) {j : Nat} (hj : isJ j) (M : Mem) (p0 : Int32) (p1 : Int32) : ∀ r, fX2_decideRequest M j p0 p1 = some r → Ct l yX2_decideRequest (.code yX2_decideRequest cX2_decideRequest 3 none) 1 21 Ω [.ref (wA Ω j), .int p0, .int p1] M (cvV r) := by
  refine ofG [(0, .ref (wA Ω j)), (1, .int p0), (2, .int p1)] hO (by decide) rfl (Nat.le_of_ble_eq_true rfl) rfl ?_
  intro p e s m args below meth c
  unfold fX2_decideRequest
  refine g_aload_n 0 rfl rfl 1 rfl dX2_decideRequest_0 ?_
  refine g_iload_n 1 rfl rfl 2 rfl dX2_decideRequest_1 ?_
  refine p_cVI j [.int p0] [] (c_X2_isWaiting l hO hX hj M p0) dX2_decideRequest_2 uv_X2_126 rfl yk_X2_isWaiting ⟨by decide, by decide⟩ (lx_J hX hj).1 (lx_J hX hj).2 rfl (Nat.le_of_ble_eq_true rfl) rfl 5 rfl ?_
  intro x1
  refine g_if_ne 23 (by decide) 8 rfl dX2_decideRequest_5 ?_ ?_
  · refine g_aload_n 0 rfl rfl 9 rfl dX2_decideRequest_8 ?_
    refine g_dup 10 rfl dX2_decideRequest_9 rfl ?_
    refine w_get (lx_J hX hj) rfl in_X2 8 (by decide) wf_X2_70 rfl 13 rfl dX2_decideRequest_10 ?_
    refine g_iconst 1 14 rfl dX2_decideRequest_13 (by decide) ?_
    refine g_iload_n 1 rfl rfl 15 rfl dX2_decideRequest_14 ?_
    refine g_ishl 16 rfl dX2_decideRequest_15 ?_
    refine g_iconst (-1) 17 rfl dX2_decideRequest_16 (by decide) ?_
    refine g_ixor 18 rfl dX2_decideRequest_17 ?_
    refine g_iand 19 rfl dX2_decideRequest_18 ?_
    refine w_put (lx_J hX hj) rfl in_X2 8 (by decide) wf_X2_70 tyX2 tyX2_ok nmX2 rfl rfl rfl rfl 22 rfl dX2_decideRequest_19 ?_
    intro M6
    exact g_vret rfl dX2_decideRequest_22
  · refine g_aload_n 0 rfl rfl 24 rfl dX2_decideRequest_23 ?_
    refine g_dup 25 rfl dX2_decideRequest_24 rfl ?_
    refine w_get (lx_J hX hj) rfl in_X2 8 (by decide) wf_X2_70 rfl 28 rfl dX2_decideRequest_25 ?_
    refine g_iconst 1 29 rfl dX2_decideRequest_28 (by decide) ?_
    refine g_iload_n 1 rfl rfl 30 rfl dX2_decideRequest_29 ?_
    refine g_ishl 31 rfl dX2_decideRequest_30 ?_
    refine g_ior 32 rfl dX2_decideRequest_31 ?_
    refine w_put (lx_J hX hj) rfl in_X2 8 (by decide) wf_X2_70 tyX2 tyX2_ok nmX2 rfl rfl rfl rfl 35 rfl dX2_decideRequest_32 ?_
    intro M2
    refine g_aload_n 0 rfl rfl 36 rfl dX2_decideRequest_35 ?_
    refine g_dup 37 rfl dX2_decideRequest_36 rfl ?_
    refine w_get (lx_J hX hj) rfl in_X2 5 (by decide) wf_X2_61 rfl 40 rfl dX2_decideRequest_37 ?_
    refine g_iconst 1 41 rfl dX2_decideRequest_40 (by decide) ?_
    refine g_iadd 42 rfl dX2_decideRequest_41 ?_
    refine w_put (lx_J hX hj) rfl in_X2 5 (by decide) wf_X2_61 tyX2 tyX2_ok nmX2 rfl rfl rfl rfl 45 rfl dX2_decideRequest_42 ?_
    intro M3
    refine g_aload_n 0 rfl rfl 46 rfl dX2_decideRequest_45 ?_
    refine g_dup 47 rfl dX2_decideRequest_46 rfl ?_
    refine w_get (lx_J hX hj) rfl in_X2 6 (by decide) wf_X2_64 rfl 50 rfl dX2_decideRequest_47 ?_
    refine g_iload_n 2 rfl rfl 51 rfl dX2_decideRequest_50 ?_
    refine g_aload_n 0 rfl rfl 52 rfl dX2_decideRequest_51 ?_
    refine w_getR (lx_J hX hj) rfl in_X2 13 (by decide) wf_X2_28 (j + 5) rfl 55 rfl dX2_decideRequest_52 ?_
    refine g_iload_n 1 rfl rfl 56 rfl dX2_decideRequest_55 ?_
    refine w_iald (lx_J5 hX hj) 57 rfl dX2_decideRequest_56 ?_
    refine g_isub 58 rfl dX2_decideRequest_57 ?_
    refine g_iadd 59 rfl dX2_decideRequest_58 ?_
    refine w_put (lx_J hX hj) rfl in_X2 6 (by decide) wf_X2_64 tyX2 tyX2_ok nmX2 rfl rfl rfl rfl 62 rfl dX2_decideRequest_59 ?_
    intro M4
    refine g_aload_n 0 rfl rfl 63 rfl dX2_decideRequest_62 ?_
    refine w_getR (lx_J hX hj) rfl in_X2 13 (by decide) wf_X2_28 (j + 5) rfl 66 rfl dX2_decideRequest_63 ?_
    refine g_iload_n 1 rfl rfl 67 rfl dX2_decideRequest_66 ?_
    refine g_iconst (-1) 68 rfl dX2_decideRequest_67 (by decide) ?_
    refine w_iast (lx_J5 hX hj) 69 rfl dX2_decideRequest_68 ?_
    intro M5
    exact g_vret rfl dX2_decideRequest_69
def fX2_hasGroup (M : Mem) (j : Nat) (p0 : Int32) : Option Int32 := clp (fX9_isWithin M p0 0 ((M j 2) - 1)) (fun x1 => grd (isb x1) (some x1))
set_option maxRecDepth 100000 in
set_option maxHeartbeats 4000000 in
theorem c_X2_hasGroup {Ω : Wd} (l : Launch) (hO : OkW Ω) (hX : LX Ω) {j : Nat} (hj : isJ j) (M : Mem) (p0 : Int32) : ∀ r, fX2_hasGroup M j p0 = some r → Ct l yX2_hasGroup (.code yX2_hasGroup cX2_hasGroup 2 (some .boolean)) 1 22 Ω [.ref (wA Ω j), .int p0] M ((cpI M) r) := by
  refine ofG [(0, .ref (wA Ω j)), (1, .int p0)] hO (by decide) rfl (Nat.le_of_ble_eq_true rfl) rfl ?_
  intro p e s m args below meth c
  unfold fX2_hasGroup
  refine g_iload_n 1 rfl rfl 1 rfl dX2_hasGroup_0 ?_
  refine g_iconst 0 2 rfl dX2_hasGroup_1 (by decide) ?_
  refine g_aload_n 0 rfl rfl 3 rfl dX2_hasGroup_2 ?_
  refine w_get (lx_J hX hj) rfl in_X2 2 (by decide) wf_X2_55 rfl 6 rfl dX2_hasGroup_3 ?_
  refine g_iconst 1 7 rfl dX2_hasGroup_6 (by decide) ?_
  refine g_isub 8 rfl dX2_hasGroup_7 ?_
  refine p_cSNI [.int p0, .int 0, .int ((M j 2) - 1)] [] (c_X9_isWithin l hO M p0 0 ((M j 2) - 1)) dX2_hasGroup_8 wk_X2_79 ws_X9_isWithin wn_X9 wc_X9_isWithin yk_X9_isWithin ⟨by decide, by decide⟩ (Nat.le_of_ble_eq_true rfl) rfl 11 rfl ?_
  intro x1
  exact p_bret rfl dX2_hasGroup_11
def fX2_conflictCount_L1 (j : Nat) (M : Mem) (k2 : Int32 → Option Int32) (k4 : (Int32 × Int32) → Option Int32) (a3 : Int32 × Int32) : Option Int32 := if M j 2 ≤ a3.2 then (k2 a3.1) else (clp (fX2_conflictSet M j a3.2) (fun x5 => clp (fJ6_bitCount_0f7a4 M x5) (fun x6 => bnd (a3.1 + x6) (fun x7 => bnd (a3.2 + 1) (fun x8 => k4 (x7, x8))))))
def fX2_conflictCount (M : Mem) (j : Nat) : Option Int32 := jn (fun (a1 : Int32) => grd (nz 2) (some (a1 / 2))) (fun k2 => lp (fX2_conflictCount_L1 j M k2) FU (0, 0))
set_option maxRecDepth 100000 in
set_option maxHeartbeats 4000000 in
theorem c_X2_conflictCount {Ω : Wd} (l : Launch) (hO : OkW Ω) (hX : LX Ω) {j : Nat} (hj : isJ j) (M : Mem)  : ∀ r, fX2_conflictCount M j = some r → Ct l yX2_conflictCount (.code yX2_conflictCount cX2_conflictCount 3 (some .int)) 3 67 Ω [.ref (wA Ω j)] M ((cpI M) r) := by
  refine ofG [(0, .ref (wA Ω j))] hO (by decide) rfl (Nat.le_of_ble_eq_true rfl) rfl ?_
  intro p e s m args below meth c
  unfold fX2_conflictCount
  refine g_iconst 0 1 rfl dX2_conflictCount_0 (by decide) ?_
  refine g_istore_nA [(1, .int 0), (0, .ref (wA Ω j))] rfl 2 rfl dX2_conflictCount_1 (by decide) rfl ?_
  refine g_iconst 0 3 rfl dX2_conflictCount_2 (by decide) ?_
  refine g_istore_nA [(2, .int 0), (1, .int 0), (0, .ref (wA Ω j))] rfl 4 rfl dX2_conflictCount_3 (by decide) rfl ?_
  refine g_join 29 (fun a1 => [(1, .int a1)]) (fun a1 => []) (fun a1 => M) ?_ ?_
  · intro a1
    refine g_iload_n 0 rfl rfl 30 rfl dX2_conflictCount_29 ?_
    refine g_iconst 2 31 rfl dX2_conflictCount_30 (by decide) ?_
    refine g_idiv 32 rfl dX2_conflictCount_31 ?_
    exact p_iret rfl dX2_conflictCount_32
  · intro k2 hk2
    refine g_sub [(0, .ref (wA Ω j)), (1, .int 0), (2, .int 0)] [2, 1, 0] rfl ?_
    refine g_loop 4 (fun a3 => [(0, .ref (wA Ω j)), (1, .int a3.1), (2, .int a3.2)]) (fun _ => []) (fun a3 => M) ?_ FU (0, 0)
    intro k4 hk4 a3
    unfold fX2_conflictCount_L1
    refine g_iload_n 2 rfl rfl 5 rfl dX2_conflictCount_4 ?_
    refine g_aload_n 0 rfl rfl 6 rfl dX2_conflictCount_5 ?_
    refine w_get (lx_J hX hj) rfl in_X2 2 (by decide) wf_X2_55 rfl 9 rfl dX2_conflictCount_6 ?_
    refine g_icmp_ge 29 (by decide) 12 rfl dX2_conflictCount_9 ?_ ?_
    · refine g_sub [(1, .int a3.1)] [1] rfl ?_
      exact hk2 a3.1
    · refine g_iload_n 1 rfl rfl 13 rfl dX2_conflictCount_12 ?_
      refine g_aload_n 0 rfl rfl 14 rfl dX2_conflictCount_13 ?_
      refine g_iload_n 2 rfl rfl 15 rfl dX2_conflictCount_14 ?_
      refine p_cVI j [.int a3.2] [.int a3.1] (c_X2_conflictSet l hO hX hj M a3.2) dX2_conflictCount_15 uv_X2_115 rfl yk_X2_conflictSet ⟨by decide, by decide⟩ (lx_J hX hj).1 (lx_J hX hj).2 rfl (Nat.le_of_ble_eq_true rfl) rfl 18 rfl ?_
      intro x5
      refine p_cTI [.int x5] [.int a3.1] (c_J6_bitCount_0f7a4 l hO M x5) dX2_conflictCount_18 ut_X2_118 yk_J6_bitCount_0f7a4 ⟨by decide, by decide⟩ (Nat.le_of_ble_eq_true rfl) rfl 21 rfl ?_
      intro x6
      refine g_iadd 22 rfl dX2_conflictCount_21 ?_
      refine g_istore_n (fun x7 => [(1, .int x7), (0, .ref (wA Ω j)), (2, .int a3.2)]) rfl 23 rfl dX2_conflictCount_22 (by decide) (fun _ => rfl) ?_
      intro x7
      refine g_iinc 2 rfl 1 (by decide) (fun x8 => [(2, .int x8), (1, .int x7), (0, .ref (wA Ω j))]) 26 rfl dX2_conflictCount_23 (by decide) (fun _ => rfl) ?_
      intro x8
      refine g_goto 4 (by decide) dX2_conflictCount_26 ?_
      refine g_sub [(0, .ref (wA Ω j)), (1, .int x7), (2, .int x8)] [2, 1, 0] rfl ?_
      exact hk4 (x7, x8)
def fX2_headSum_L1 (j : Nat) (M : Mem) (k2 : (Int32 × Int32) → Option Int32) (a1 : Int32 × Int32) : Option Int32 := if M j 2 ≤ a1.2 then (some a1.1) else (clp (fX2_headCount M j a1.2) (fun x3 => bnd (a1.1 + x3) (fun x4 => bnd (a1.2 + 1) (fun x5 => k2 (x4, x5)))))
def fX2_headSum (M : Mem) (j : Nat) : Option Int32 := lp (fX2_headSum_L1 j M) FU (0, 0)
set_option maxRecDepth 100000 in
set_option maxHeartbeats 4000000 in
theorem c_X2_headSum {Ω : Wd} (l : Launch) (hO : OkW Ω) (hX : LX Ω) {j : Nat} (hj : isJ j) (M : Mem)  : ∀ r, fX2_headSum M j = some r → Ct l yX2_headSum (.code yX2_headSum cX2_headSum 3 (some .int)) 1 23 Ω [.ref (wA Ω j)] M ((cpI M) r) := by
  refine ofG [(0, .ref (wA Ω j))] hO (by decide) rfl (Nat.le_of_ble_eq_true rfl) rfl ?_
  intro p e s m args below meth c
  unfold fX2_headSum
  refine g_iconst 0 1 rfl dX2_headSum_0 (by decide) ?_
  refine g_istore_nA [(1, .int 0), (0, .ref (wA Ω j))] rfl 2 rfl dX2_headSum_1 (by decide) rfl ?_
  refine g_iconst 0 3 rfl dX2_headSum_2 (by decide) ?_
  refine g_istore_nA [(2, .int 0), (1, .int 0), (0, .ref (wA Ω j))] rfl 4 rfl dX2_headSum_3 (by decide) rfl ?_
  refine g_sub [(0, .ref (wA Ω j)), (1, .int 0), (2, .int 0)] [2, 1, 0] rfl ?_
  refine g_loop 4 (fun a1 => [(0, .ref (wA Ω j)), (1, .int a1.1), (2, .int a1.2)]) (fun _ => []) (fun a1 => M) ?_ FU (0, 0)
  intro k2 hk2 a1
  unfold fX2_headSum_L1
  refine g_iload_n 2 rfl rfl 5 rfl dX2_headSum_4 ?_
  refine g_aload_n 0 rfl rfl 6 rfl dX2_headSum_5 ?_
  refine w_get (lx_J hX hj) rfl in_X2 2 (by decide) wf_X2_55 rfl 9 rfl dX2_headSum_6 ?_
  refine g_icmp_ge 26 (by decide) 12 rfl dX2_headSum_9 ?_ ?_
  · refine g_iload_n 1 rfl rfl 27 rfl dX2_headSum_26 ?_
    exact p_iret rfl dX2_headSum_27
  · refine g_iload_n 1 rfl rfl 13 rfl dX2_headSum_12 ?_
    refine g_aload_n 0 rfl rfl 14 rfl dX2_headSum_13 ?_
    refine g_iload_n 2 rfl rfl 15 rfl dX2_headSum_14 ?_
    refine p_cVI j [.int a1.2] [.int a1.1] (c_X2_headCount l hO hX hj M a1.2) dX2_headSum_15 uv_X2_130 rfl yk_X2_headCount ⟨by decide, by decide⟩ (lx_J hX hj).1 (lx_J hX hj).2 rfl (Nat.le_of_ble_eq_true rfl) rfl 18 rfl ?_
    intro x3
    refine g_iadd 19 rfl dX2_headSum_18 ?_
    refine g_istore_n (fun x4 => [(1, .int x4), (0, .ref (wA Ω j)), (2, .int a1.2)]) rfl 20 rfl dX2_headSum_19 (by decide) (fun _ => rfl) ?_
    intro x4
    refine g_iinc 2 rfl 1 (by decide) (fun x5 => [(2, .int x5), (1, .int x4), (0, .ref (wA Ω j))]) 23 rfl dX2_headSum_20 (by decide) (fun _ => rfl) ?_
    intro x5
    refine g_goto 4 (by decide) dX2_headSum_23 ?_
    refine g_sub [(0, .ref (wA Ω j)), (1, .int x4), (2, .int x5)] [2, 1, 0] rfl ?_
    exact hk2 (x4, x5)
def fX2_localSecond (M : Mem) (j : Nat) (p0 : Int32) (p1 : Int32) : Option Int32 := clp (fX9_wrap M (p0 - (M j 1)) p1) (fun x1 => some x1)
set_option maxRecDepth 100000 in
set_option maxHeartbeats 4000000 in
theorem c_X2_localSecond {Ω : Wd} (l : Launch) (hO : OkW Ω) (hX : LX Ω) {j : Nat} (hj : isJ j) (M : Mem) (p0 : Int32) (p1 : Int32) : ∀ r, fX2_localSecond M j p0 p1 = some r → Ct l yX2_localSecond (.code yX2_localSecond cX2_localSecond 3 (some .int)) 1 22 Ω [.ref (wA Ω j), .int p0, .int p1] M ((cpI M) r) := by
  refine ofG [(0, .ref (wA Ω j)), (1, .int p0), (2, .int p1)] hO (by decide) rfl (Nat.le_of_ble_eq_true rfl) rfl ?_
  intro p e s m args below meth c
  unfold fX2_localSecond
  refine g_iload_n 1 rfl rfl 1 rfl dX2_localSecond_0 ?_
  refine g_aload_n 0 rfl rfl 2 rfl dX2_localSecond_1 ?_
  refine w_get (lx_J hX hj) rfl in_X2 1 (by decide) wf_X2_52 rfl 5 rfl dX2_localSecond_2 ?_
  refine g_isub 6 rfl dX2_localSecond_5 ?_
  refine g_iload_n 2 rfl rfl 7 rfl dX2_localSecond_6 ?_
  refine p_cSNI [.int (p0 - (M j 1)), .int p1] [] (c_X9_wrap l hO M (p0 - (M j 1)) p1) dX2_localSecond_7 wk_X2_133 ws_X9_wrap wn_X9 wc_X9_wrap yk_X9_wrap ⟨by decide, by decide⟩ (Nat.le_of_ble_eq_true rfl) rfl 10 rfl ?_
  intro x1
  exact p_iret rfl dX2_localSecond_10
def fX2_isOn (M : Mem) (j : Nat) (p0 : Int32) (p1 : Int32) (p2 : Int32) (p3 : Int32) : Option Int32 := clp (fX2_firstOf M j p0 p1) (fun x1 => clp (fX9_wrap M (p2 - x1) p3) (fun x2 => clp (fX2_lengthOf M j p0 p1) (fun x3 => jn (fun (a4 : Int32) => grd (isb a4) (some a4)) (fun k5 => if x3 ≤ x2 then (k5 0) else (k5 1)))))
set_option maxRecDepth 100000 in
set_option maxHeartbeats 4000000 in
theorem c_X2_isOn {Ω : Wd} (l : Launch) (hO : OkW Ω) (hX : LX Ω) {j : Nat} (hj : isJ j) (M : Mem) (p0 : Int32) (p1 : Int32) (p2 : Int32) (p3 : Int32) : ∀ r, fX2_isOn M j p0 p1 p2 p3 = some r → Ct l yX2_isOn (.code yX2_isOn cX2_isOn 5 (some .boolean)) 1 22 Ω [.ref (wA Ω j), .int p0, .int p1, .int p2, .int p3] M ((cpI M) r) := by
  refine ofG [(0, .ref (wA Ω j)), (1, .int p0), (2, .int p1), (3, .int p2), (4, .int p3)] hO (by decide) rfl (Nat.le_of_ble_eq_true rfl) rfl ?_
  intro p e s m args below meth c
  unfold fX2_isOn
  refine g_iload_n 3 rfl rfl 1 rfl dX2_isOn_0 ?_
  refine g_aload_n 0 rfl rfl 2 rfl dX2_isOn_1 ?_
  refine g_iload_n 1 rfl rfl 3 rfl dX2_isOn_2 ?_
  refine g_iload_n 2 rfl rfl 4 rfl dX2_isOn_3 ?_
  refine p_cVI j [.int p0, .int p1] [.int p2] (c_X2_firstOf l hO hX hj M p0 p1) dX2_isOn_4 uv_X2_136 rfl yk_X2_firstOf ⟨by decide, by decide⟩ (lx_J hX hj).1 (lx_J hX hj).2 rfl (Nat.le_of_ble_eq_true rfl) rfl 7 rfl ?_
  intro x1
  refine g_isub 8 rfl dX2_isOn_7 ?_
  refine g_iload 4 rfl 10 rfl dX2_isOn_8 ?_
  refine p_cSNI [.int (p2 - x1), .int p3] [] (c_X9_wrap l hO M (p2 - x1) p3) dX2_isOn_10 wk_X2_133 ws_X9_wrap wn_X9 wc_X9_wrap yk_X9_wrap ⟨by decide, by decide⟩ (Nat.le_of_ble_eq_true rfl) rfl 13 rfl ?_
  intro x2
  refine g_aload_n 0 rfl rfl 14 rfl dX2_isOn_13 ?_
  refine g_iload_n 1 rfl rfl 15 rfl dX2_isOn_14 ?_
  refine g_iload_n 2 rfl rfl 16 rfl dX2_isOn_15 ?_
  refine p_cVI j [.int p0, .int p1] [.int x2] (c_X2_lengthOf l hO hX hj M p0 p1) dX2_isOn_16 uv_X2_87 rfl yk_X2_lengthOf ⟨by decide, by decide⟩ (lx_J hX hj).1 (lx_J hX hj).2 rfl (Nat.le_of_ble_eq_true rfl) rfl 19 rfl ?_
  intro x3
  refine g_join 27 (fun a4 => []) (fun a4 => [.int a4]) (fun a4 => M) ?_ ?_
  · intro a4
    exact p_bret rfl dX2_isOn_27
  · intro k5 hk5
    refine g_icmp_ge 26 (by decide) 22 rfl dX2_isOn_19 ?_ ?_
    · refine g_iconst 0 27 rfl dX2_isOn_26 (by decide) ?_
      refine g_sub [] [] rfl ?_
      exact hk5 0
    · refine g_iconst 1 23 rfl dX2_isOn_22 (by decide) ?_
      refine g_goto 27 (by decide) dX2_isOn_23 ?_
      refine g_sub [] [] rfl ?_
      exact hk5 1
def fX2_onSet_L1 (j : Nat) (p0 : Int32) (p1 : Int32) (p2 : Int32) (M : Mem) (k2 : (Int32 × Int32) → Option Int32) (a1 : Int32 × Int32) : Option Int32 := if M j 2 ≤ a1.2 then (some a1.1) else (clp (fX2_isOn M j p0 a1.2 p1 p2) (fun x3 => jn (fun (a4 : Int32) => bnd (a1.1 ||| a4) (fun x6 => bnd (a1.2 + 1) (fun x7 => k2 (x6, x7)))) (fun k5 => if x3 = 0 then (k5 0) else (k5 (1 <<< (a1.2 &&& 31))))))
def fX2_onSet (M : Mem) (j : Nat) (p0 : Int32) (p1 : Int32) (p2 : Int32) : Option Int32 := lp (fX2_onSet_L1 j p0 p1 p2 M) FU (0, 0)
set_option maxRecDepth 100000 in
set_option maxHeartbeats 4000000 in
theorem c_X2_onSet {Ω : Wd} (l : Launch) (hO : OkW Ω) (hX : LX Ω) {j : Nat} (hj : isJ j) (M : Mem) (p0 : Int32) (p1 : Int32) (p2 : Int32) : ∀ r, fX2_onSet M j p0 p1 p2 = some r → Ct l yX2_onSet (.code yX2_onSet cX2_onSet 6 (some .int)) 2 46 Ω [.ref (wA Ω j), .int p0, .int p1, .int p2] M ((cpI M) r) := by
  refine ofG [(0, .ref (wA Ω j)), (1, .int p0), (2, .int p1), (3, .int p2)] hO (by decide) rfl (Nat.le_of_ble_eq_true rfl) rfl ?_
  intro p e s m args below meth c
  unfold fX2_onSet
  refine g_iconst 0 1 rfl dX2_onSet_0 (by decide) ?_
  refine g_istoreA [(4, .int 0), (0, .ref (wA Ω j)), (1, .int p0), (2, .int p1), (3, .int p2)] 3 rfl dX2_onSet_1 (by decide) rfl ?_
  refine g_iconst 0 4 rfl dX2_onSet_3 (by decide) ?_
  refine g_istoreA [(5, .int 0), (4, .int 0), (0, .ref (wA Ω j)), (1, .int p0), (2, .int p1), (3, .int p2)] 6 rfl dX2_onSet_4 (by decide) rfl ?_
  refine g_sub [(0, .ref (wA Ω j)), (1, .int p0), (2, .int p1), (3, .int p2), (4, .int 0), (5, .int 0)] [2, 3, 4, 5, 1, 0] rfl ?_
  refine g_loop 6 (fun a1 => [(0, .ref (wA Ω j)), (1, .int p0), (2, .int p1), (3, .int p2), (4, .int a1.1), (5, .int a1.2)]) (fun _ => []) (fun a1 => M) ?_ FU (0, 0)
  intro k2 hk2 a1
  unfold fX2_onSet_L1
  refine g_iload 5 rfl 8 rfl dX2_onSet_6 ?_
  refine g_aload_n 0 rfl rfl 9 rfl dX2_onSet_8 ?_
  refine w_get (lx_J hX hj) rfl in_X2 2 (by decide) wf_X2_55 rfl 12 rfl dX2_onSet_9 ?_
  refine g_icmp_ge 46 (by decide) 15 rfl dX2_onSet_12 ?_ ?_
  · refine g_iload 4 rfl 48 rfl dX2_onSet_46 ?_
    exact p_iret rfl dX2_onSet_48
  · refine g_iload 4 rfl 17 rfl dX2_onSet_15 ?_
    refine g_aload_n 0 rfl rfl 18 rfl dX2_onSet_17 ?_
    refine g_iload_n 1 rfl rfl 19 rfl dX2_onSet_18 ?_
    refine g_iload 5 rfl 21 rfl dX2_onSet_19 ?_
    refine g_iload_n 2 rfl rfl 22 rfl dX2_onSet_21 ?_
    refine g_iload_n 3 rfl rfl 23 rfl dX2_onSet_22 ?_
    refine p_cVI j [.int p0, .int a1.2, .int p1, .int p2] [.int a1.1] (c_X2_isOn l hO hX hj M p0 a1.2 p1 p2) dX2_onSet_23 uv_X2_139 rfl yk_X2_isOn ⟨by decide, by decide⟩ (lx_J hX hj).1 (lx_J hX hj).2 rfl (Nat.le_of_ble_eq_true rfl) rfl 26 rfl ?_
    intro x3
    refine g_join 37 (fun a4 => [(0, .ref (wA Ω j)), (1, .int p0), (2, .int p1), (3, .int p2), (5, .int a1.2)]) (fun a4 => [.int a4, .int a1.1]) (fun a4 => M) ?_ ?_
    · intro a4
      refine g_ior 38 rfl dX2_onSet_37 ?_
      refine g_istore (fun x6 => [(4, .int x6), (0, .ref (wA Ω j)), (1, .int p0), (2, .int p1), (3, .int p2), (5, .int a1.2)]) 40 rfl dX2_onSet_38 (by decide) (fun _ => rfl) ?_
      intro x6
      refine g_iinc 5 rfl 1 (by decide) (fun x7 => [(5, .int x7), (4, .int x6), (0, .ref (wA Ω j)), (1, .int p0), (2, .int p1), (3, .int p2)]) 43 rfl dX2_onSet_40 (by decide) (fun _ => rfl) ?_
      intro x7
      refine g_goto 6 (by decide) dX2_onSet_43 ?_
      refine g_sub [(0, .ref (wA Ω j)), (1, .int p0), (2, .int p1), (3, .int p2), (4, .int x6), (5, .int x7)] [2, 3, 4, 5, 1, 0] rfl ?_
      exact hk2 (x6, x7)
    · intro k5 hk5
      refine g_if_eq 36 (by decide) 29 rfl dX2_onSet_26 ?_ ?_
      · refine g_iconst 0 37 rfl dX2_onSet_36 (by decide) ?_
        refine g_sub [(0, .ref (wA Ω j)), (1, .int p0), (2, .int p1), (3, .int p2), (5, .int a1.2)] [0, 1, 2, 3, 5] rfl ?_
        exact hk5 0
      · refine g_iconst 1 30 rfl dX2_onSet_29 (by decide) ?_
        refine g_iload 5 rfl 32 rfl dX2_onSet_30 ?_
        refine g_ishl 33 rfl dX2_onSet_32 ?_
        refine g_goto 37 (by decide) dX2_onSet_33 ?_
        refine g_sub [(0, .ref (wA Ω j)), (1, .int p0), (2, .int p1), (3, .int p2), (5, .int a1.2)] [0, 1, 2, 3, 5] rfl ?_
        exact hk5 (1 <<< (a1.2 &&& 31))
def fX2_pictureAt_L1 (j : Nat) (p0 : Int32) (p1 : Int32) (p2 : Int32) (M : Mem) (k2 : Int32 → Option Int32) (k6 : (Int64 × Int32 × Int32) → Option Int32) (a5 : Int64 × Int32 × Int32) : Option Int32 := if p2 ≤ a5.2.2 then (k2 a5.2.1) else (clp (fX2_onSet M j p0 a5.2.2 p2) (fun x7 => jn (fun (a8 : Int64 × Int32) => bnd (a5.2.2 + 1) (fun x10 => k6 (a8.1, a8.2, x10))) (fun k9 => if lg_cmp (((a5.1.toUInt64 >>> (x7.toInt64.toUInt64 &&& Int64.toUInt64 63)).toInt64) &&& 1) 0 = 0 then (if a5.2.1 = p1 then (some x7) else (bnd (a5.1 ||| ((1 : Int64) <<< (x7.toInt64 &&& 63))) (fun x11 => bnd (a5.2.1 + 1) (fun x12 => k9 (x11, x12))))) else (k9 (a5.1, a5.2.1)))))
def fX2_pictureAt (M : Mem) (j : Nat) (p0 : Int32) (p1 : Int32) (p2 : Int32) : Option Int32 := jn (fun (a1 : Int32) => jn (fun (a3 : Int32) => some a3) (fun k4 => if p1 = (-1) then (k4 a1) else (k4 (-1)))) (fun k2 => lp (fX2_pictureAt_L1 j p0 p1 p2 M k2) FU (0, 0, 0))
set_option maxRecDepth 100000 in
set_option maxHeartbeats 4000000 in
theorem c_X2_pictureAt {Ω : Wd} (l : Launch) (hO : OkW Ω) (hX : LX Ω) {j : Nat} (hj : isJ j) (M : Mem) (p0 : Int32) (p1 : Int32) (p2 : Int32) : ∀ r, fX2_pictureAt M j p0 p1 p2 = some r → Ct l yX2_pictureAt (.code yX2_pictureAt cX2_pictureAt 9 (some .int)) 3 71 Ω [.ref (wA Ω j), .int p0, .int p1, .int p2] M ((cpI M) r) := by
  refine ofG [(0, .ref (wA Ω j)), (1, .int p0), (2, .int p1), (3, .int p2)] hO (by decide) rfl (Nat.le_of_ble_eq_true rfl) rfl ?_
  intro p e s m args below meth c
  unfold fX2_pictureAt
  refine g_lconst 0 1 rfl dX2_pictureAt_0 (by decide) ?_
  refine g_lstoreA [(4, .long 0), (0, .ref (wA Ω j)), (1, .int p0), (2, .int p1), (3, .int p2)] 3 rfl dX2_pictureAt_1 (by decide) rfl ?_
  refine g_iconst 0 4 rfl dX2_pictureAt_3 (by decide) ?_
  refine g_istoreA [(6, .int 0), (4, .long 0), (0, .ref (wA Ω j)), (1, .int p0), (2, .int p1), (3, .int p2)] 6 rfl dX2_pictureAt_4 (by decide) rfl ?_
  refine g_iconst 0 7 rfl dX2_pictureAt_6 (by decide) ?_
  refine g_istoreA [(7, .int 0), (6, .int 0), (4, .long 0), (0, .ref (wA Ω j)), (1, .int p0), (2, .int p1), (3, .int p2)] 9 rfl dX2_pictureAt_7 (by decide) rfl ?_
  refine g_join 64 (fun a1 => [(2, .int p1), (6, .int a1)]) (fun a1 => []) (fun a1 => M) ?_ ?_
  · intro a1
    refine g_iload_n 0 rfl rfl 65 rfl dX2_pictureAt_64 ?_
    refine g_iconst (-1) 66 rfl dX2_pictureAt_65 (by decide) ?_
    refine g_join 75 (fun a3 => []) (fun a3 => [.int a3]) (fun a3 => M) ?_ ?_
    · intro a3
      exact p_iret rfl dX2_pictureAt_75
    · intro k4 hk4
      refine g_icmp_ne 74 (by decide) 69 rfl dX2_pictureAt_66 ?_ ?_
      · refine g_iload 1 rfl 71 rfl dX2_pictureAt_69 ?_
        refine g_goto 75 (by decide) dX2_pictureAt_71 ?_
        refine g_sub [] [] rfl ?_
        exact hk4 a1
      · refine g_iconst (-1) 75 rfl dX2_pictureAt_74 (by decide) ?_
        refine g_sub [] [] rfl ?_
        exact hk4 (-1)
  · intro k2 hk2
    refine g_sub [(0, .ref (wA Ω j)), (1, .int p0), (2, .int p1), (3, .int p2), (4, .long 0), (6, .int 0), (7, .int 0)] [3, 4, 5, 6, 2, 1, 0] rfl ?_
    refine g_loop 9 (fun a5 => [(0, .ref (wA Ω j)), (1, .int p0), (2, .int p1), (3, .int p2), (4, .long a5.1), (6, .int a5.2.1), (7, .int a5.2.2)]) (fun _ => []) (fun a5 => M) ?_ FU (0, 0, 0)
    intro k6 hk6 a5
    unfold fX2_pictureAt_L1
    refine g_iload 6 rfl 11 rfl dX2_pictureAt_9 ?_
    refine g_iload_n 3 rfl rfl 12 rfl dX2_pictureAt_11 ?_
    refine g_icmp_ge 64 (by decide) 15 rfl dX2_pictureAt_12 ?_ ?_
    · refine g_sub [(2, .int p1), (6, .int a5.2.1)] [2, 5] rfl ?_
      exact hk2 a5.2.1
    · refine g_aload_n 0 rfl rfl 16 rfl dX2_pictureAt_15 ?_
      refine g_iload_n 1 rfl rfl 17 rfl dX2_pictureAt_16 ?_
      refine g_iload 6 rfl 19 rfl dX2_pictureAt_17 ?_
      refine g_iload_n 3 rfl rfl 20 rfl dX2_pictureAt_19 ?_
      refine p_cVI j [.int p0, .int a5.2.2, .int p2] [] (c_X2_onSet l hO hX hj M p0 a5.2.2 p2) dX2_pictureAt_20 uv_X2_143 rfl yk_X2_onSet ⟨by decide, by decide⟩ (lx_J hX hj).1 (lx_J hX hj).2 rfl (Nat.le_of_ble_eq_true rfl) rfl 23 rfl ?_
      intro x7
      refine g_istoreA [(8, .int x7), (0, .ref (wA Ω j)), (1, .int p0), (2, .int p1), (3, .int p2), (4, .long a5.1), (6, .int a5.2.1), (7, .int a5.2.2)] 25 rfl dX2_pictureAt_23 (by decide) rfl ?_
      refine g_lload 5 rfl 27 rfl dX2_pictureAt_25 ?_
      refine g_iload 0 rfl 29 rfl dX2_pictureAt_27 ?_
      refine g_lushr 30 rfl dX2_pictureAt_29 ?_
      refine g_lconst 1 31 rfl dX2_pictureAt_30 (by decide) ?_
      refine g_land 32 rfl dX2_pictureAt_31 ?_
      refine g_lconst 0 33 rfl dX2_pictureAt_32 (by decide) ?_
      refine g_lcmp 34 rfl dX2_pictureAt_33 ?_
      refine g_join 58 (fun a8 => [(0, .ref (wA Ω j)), (1, .int p0), (2, .int p1), (3, .int p2), (4, .long a8.1), (6, .int a8.2), (7, .int a5.2.2)]) (fun a8 => []) (fun a8 => M) ?_ ?_
      · intro a8
        refine g_iinc 6 rfl 1 (by decide) (fun x10 => [(7, .int x10), (0, .ref (wA Ω j)), (1, .int p0), (2, .int p1), (3, .int p2), (4, .long a8.1), (6, .int a8.2)]) 61 rfl dX2_pictureAt_58 (by decide) (fun _ => rfl) ?_
        intro x10
        refine g_goto 9 (by decide) dX2_pictureAt_61 ?_
        refine g_sub [(0, .ref (wA Ω j)), (1, .int p0), (2, .int p1), (3, .int p2), (4, .long a8.1), (6, .int a8.2), (7, .int x10)] [1, 2, 3, 4, 5, 6, 0] rfl ?_
        exact hk6 (a8.1, a8.2, x10)
      · intro k9 hk9
        refine g_if_ne 58 (by decide) 37 rfl dX2_pictureAt_34 ?_ ?_
        · refine g_iload 6 rfl 39 rfl dX2_pictureAt_37 ?_
          refine g_iload_n 3 rfl rfl 40 rfl dX2_pictureAt_39 ?_
          refine g_icmp_ne 46 (by decide) 43 rfl dX2_pictureAt_40 ?_ ?_
          · refine g_iload 0 rfl 45 rfl dX2_pictureAt_43 ?_
            exact p_iret rfl dX2_pictureAt_45
          · refine g_lload 5 rfl 48 rfl dX2_pictureAt_46 ?_
            refine g_lconst 1 49 rfl dX2_pictureAt_48 (by decide) ?_
            refine g_iload 0 rfl 51 rfl dX2_pictureAt_49 ?_
            refine g_lshl 52 rfl dX2_pictureAt_51 ?_
            refine g_lor 53 rfl dX2_pictureAt_52 ?_
            refine g_lstore (fun x11 => [(4, .long x11), (8, .int x7), (0, .ref (wA Ω j)), (1, .int p0), (2, .int p1), (3, .int p2), (6, .int a5.2.1), (7, .int a5.2.2)]) 55 rfl dX2_pictureAt_53 (by decide) (fun _ => rfl) ?_
            intro x11
            refine g_iinc 6 rfl 1 (by decide) (fun x12 => [(6, .int x12), (4, .long x11), (8, .int x7), (0, .ref (wA Ω j)), (1, .int p0), (2, .int p1), (3, .int p2), (7, .int a5.2.2)]) 58 rfl dX2_pictureAt_55 (by decide) (fun _ => rfl) ?_
            intro x12
            refine g_sub [(0, .ref (wA Ω j)), (1, .int p0), (2, .int p1), (3, .int p2), (4, .long x11), (6, .int x12), (7, .int a5.2.2)] [3, 4, 5, 6, 1, 0, 7] rfl ?_
            exact hk9 (x11, x12)
        · refine g_sub [(0, .ref (wA Ω j)), (1, .int p0), (2, .int p1), (3, .int p2), (4, .long a5.1), (6, .int a5.2.1), (7, .int a5.2.2)] [1, 2, 3, 4, 5, 6, 7] rfl ?_
          exact hk9 (a5.1, a5.2.1)
def fX2_clashWith (M : Mem) (j : Nat) (p0 : Int32) (p1 : Int32) (p2 : Int32) (p3 : Int32) (p4 : Int32) (p5 : Int32) : Option Int32 := grd (inb p0 12) (bnd (M (j + 8) p0.toNatClampNeg) (fun x1 => grd (inb p0 12) (bnd (M (j + 9) p0.toNatClampNeg) (fun x2 => clp (fX9_wrap M (x1 - p1) p5) (fun x3 => jn (fun (a4 : Int32) => clp (fX9_wrap M (p1 - x1) p5) (fun x6 => jn (fun (a7 : Int32) => jn (fun (a9 : Unit) => some 3) (fun k10 => if a4 = 0 then (if a7 = 0 then (clp (fX9_gap M x1 x2 p1 p5) (fun x11 => if p4 ≤ x11 then (clp (fX9_gap M p1 p2 x1 p5) (fun x12 => jn (fun (a13 : Int32) => some a13) (fun k14 => if p3 ≤ x12 then (k14 0) else (k14 5)))) else (some 4))) else (k10 ())) else (k10 ()))) (fun k8 => if x2 ≤ x6 then (k8 0) else (k8 1)))) (fun k5 => if p2 ≤ x3 then (k5 0) else (k5 1)))))))
set_option maxRecDepth 100000 in
set_option maxHeartbeats 4000000 in
theorem c_X2_clashWith {Ω : Wd} (l : Launch) (hO : OkW Ω) (hX : LX Ω) {j : Nat} (hj : isJ j) (M : Mem) (p0 : Int32) (p1 : Int32) (p2 : Int32) (p3 : Int32) (p4 : Int32) (p5 : Int32) : ∀ r, fX2_clashWith M j p0 p1 p2 p3 p4 p5 = some r → Ct l yX2_clashWith (.code yX2_clashWith cX2_clashWith 11 (some .int)) 2 45 Ω [.ref (wA Ω j), .int p0, .int p1, .int p2, .int p3, .int p4, .int p5] M ((cpI M) r) := by
  refine ofG [(0, .ref (wA Ω j)), (1, .int p0), (2, .int p1), (3, .int p2), (4, .int p3), (5, .int p4), (6, .int p5)] hO (by decide) rfl (Nat.le_of_ble_eq_true rfl) rfl ?_
  intro p e s m args below meth c
  unfold fX2_clashWith
  refine g_aload_n 0 rfl rfl 1 rfl dX2_clashWith_0 ?_
  refine w_getR (lx_J hX hj) rfl in_X2 16 (by decide) wf_X2_37 (j + 8) rfl 4 rfl dX2_clashWith_1 ?_
  refine g_iload_n 1 rfl rfl 5 rfl dX2_clashWith_4 ?_
  refine w_iald (lx_J8 hX hj) 6 rfl dX2_clashWith_5 ?_
  refine g_istore (fun x1 => [(7, .int x1), (0, .ref (wA Ω j)), (1, .int p0), (2, .int p1), (3, .int p2), (4, .int p3), (5, .int p4), (6, .int p5)]) 8 rfl dX2_clashWith_6 (by decide) (fun _ => rfl) ?_
  intro x1
  refine g_aload_n 1 rfl rfl 9 rfl dX2_clashWith_8 ?_
  refine w_getR (lx_J hX hj) rfl in_X2 17 (by decide) wf_X2_40 (j + 9) rfl 12 rfl dX2_clashWith_9 ?_
  refine g_iload_n 2 rfl rfl 13 rfl dX2_clashWith_12 ?_
  refine w_iald (lx_J9 hX hj) 14 rfl dX2_clashWith_13 ?_
  refine g_istore (fun x2 => [(8, .int x2), (7, .int x1), (0, .ref (wA Ω j)), (1, .int p0), (2, .int p1), (3, .int p2), (4, .int p3), (5, .int p4), (6, .int p5)]) 16 rfl dX2_clashWith_14 (by decide) (fun _ => rfl) ?_
  intro x2
  refine g_iload 1 rfl 18 rfl dX2_clashWith_16 ?_
  refine g_iload_n 4 rfl rfl 19 rfl dX2_clashWith_18 ?_
  refine g_isub 20 rfl dX2_clashWith_19 ?_
  refine g_iload 8 rfl 22 rfl dX2_clashWith_20 ?_
  refine p_cSNI [.int (x1 - p1), .int p5] [] (c_X9_wrap l hO M (x1 - p1) p5) dX2_clashWith_22 wk_X2_133 ws_X9_wrap wn_X9 wc_X9_wrap yk_X9_wrap ⟨by decide, by decide⟩ (Nat.le_of_ble_eq_true rfl) rfl 25 rfl ?_
  intro x3
  refine g_iload_n 5 rfl rfl 26 rfl dX2_clashWith_25 ?_
  refine g_join 34 (fun a4 => [(2, .int p1), (3, .int p2), (4, .int p3), (5, .int p4), (6, .int p5), (7, .int x1), (8, .int x2)]) (fun a4 => [.int a4]) (fun a4 => M) ?_ ?_
  · intro a4
    refine g_istoreA [(9, .int a4), (2, .int p1), (3, .int p2), (4, .int p3), (5, .int p4), (6, .int p5), (7, .int x1), (8, .int x2)] 36 rfl dX2_clashWith_34 (by decide) rfl ?_
    refine g_iload_n 1 rfl rfl 37 rfl dX2_clashWith_36 ?_
    refine g_iload 6 rfl 39 rfl dX2_clashWith_37 ?_
    refine g_isub 40 rfl dX2_clashWith_39 ?_
    refine g_iload 5 rfl 42 rfl dX2_clashWith_40 ?_
    refine p_cSNI [.int (p1 - x1), .int p5] [] (c_X9_wrap l hO M (p1 - x1) p5) dX2_clashWith_42 wk_X2_133 ws_X9_wrap wn_X9 wc_X9_wrap yk_X9_wrap ⟨by decide, by decide⟩ (Nat.le_of_ble_eq_true rfl) rfl 45 rfl ?_
    intro x6
    refine g_iload 7 rfl 47 rfl dX2_clashWith_45 ?_
    refine g_join 55 (fun a7 => [(2, .int p1), (3, .int p2), (4, .int p3), (5, .int p4), (6, .int p5), (7, .int x1), (8, .int x2), (9, .int a4)]) (fun a7 => [.int a7]) (fun a7 => M) ?_ ?_
    · intro a7
      refine g_istoreA [(10, .int a7), (2, .int p1), (3, .int p2), (4, .int p3), (5, .int p4), (6, .int p5), (7, .int x1), (8, .int x2), (9, .int a4)] 57 rfl dX2_clashWith_55 (by decide) rfl ?_
      refine g_iload 8 rfl 59 rfl dX2_clashWith_57 ?_
      refine g_join 67 (fun a9 => []) (fun a9 => []) (fun a9 => M) ?_ ?_
      · intro a9
        refine g_iconst 3 68 rfl dX2_clashWith_67 (by decide) ?_
        exact p_iret rfl dX2_clashWith_68
      · intro k10 hk10
        refine g_if_ne 67 (by decide) 62 rfl dX2_clashWith_59 ?_ ?_
        · refine g_iload 0 rfl 64 rfl dX2_clashWith_62 ?_
          refine g_if_eq 69 (by decide) 67 rfl dX2_clashWith_64 ?_ ?_
          · refine g_iload 6 rfl 71 rfl dX2_clashWith_69 ?_
            refine g_iload 7 rfl 73 rfl dX2_clashWith_71 ?_
            refine g_iload_n 1 rfl rfl 74 rfl dX2_clashWith_73 ?_
            refine g_iload 5 rfl 76 rfl dX2_clashWith_74 ?_
            refine p_cSNI [.int x1, .int x2, .int p1, .int p5] [] (c_X9_gap l hO M x1 x2 p1 p5) dX2_clashWith_76 wk_X2_154 ws_X9_gap wn_X9 wc_X9_gap yk_X9_gap ⟨by decide, by decide⟩ (Nat.le_of_ble_eq_true rfl) rfl 79 rfl ?_
            intro x11
            refine g_iload 4 rfl 81 rfl dX2_clashWith_79 ?_
            refine g_icmp_ge 86 (by decide) 84 rfl dX2_clashWith_81 ?_ ?_
            · refine g_iload_n 1 rfl rfl 87 rfl dX2_clashWith_86 ?_
              refine g_iload_n 2 rfl rfl 88 rfl dX2_clashWith_87 ?_
              refine g_iload 6 rfl 90 rfl dX2_clashWith_88 ?_
              refine g_iload 5 rfl 92 rfl dX2_clashWith_90 ?_
              refine p_cSNI [.int p1, .int p2, .int x1, .int p5] [] (c_X9_gap l hO M p1 p2 x1 p5) dX2_clashWith_92 wk_X2_154 ws_X9_gap wn_X9 wc_X9_gap yk_X9_gap ⟨by decide, by decide⟩ (Nat.le_of_ble_eq_true rfl) rfl 95 rfl ?_
              intro x12
              refine g_iload 3 rfl 97 rfl dX2_clashWith_95 ?_
              refine g_join 105 (fun a13 => []) (fun a13 => [.int a13]) (fun a13 => M) ?_ ?_
              · intro a13
                exact p_iret rfl dX2_clashWith_105
              · intro k14 hk14
                refine g_icmp_ge 104 (by decide) 100 rfl dX2_clashWith_97 ?_ ?_
                · refine g_iconst 0 105 rfl dX2_clashWith_104 (by decide) ?_
                  refine g_sub [] [] rfl ?_
                  exact hk14 0
                · refine g_iconst 5 101 rfl dX2_clashWith_100 (by decide) ?_
                  refine g_goto 105 (by decide) dX2_clashWith_101 ?_
                  refine g_sub [] [] rfl ?_
                  exact hk14 5
            · refine g_iconst 4 85 rfl dX2_clashWith_84 (by decide) ?_
              exact p_iret rfl dX2_clashWith_85
          · refine g_sub [] [] rfl ?_
            exact hk10 ()
        · refine g_sub [] [] rfl ?_
          exact hk10 ()
    · intro k8 hk8
      refine g_icmp_ge 54 (by decide) 50 rfl dX2_clashWith_47 ?_ ?_
      · refine g_iconst 0 55 rfl dX2_clashWith_54 (by decide) ?_
        refine g_sub [(2, .int p1), (3, .int p2), (4, .int p3), (5, .int p4), (6, .int p5), (7, .int x1), (8, .int x2), (9, .int a4)] [1, 2, 3, 4, 5, 6, 7, 0] rfl ?_
        exact hk8 0
      · refine g_iconst 1 51 rfl dX2_clashWith_50 (by decide) ?_
        refine g_goto 55 (by decide) dX2_clashWith_51 ?_
        refine g_sub [(2, .int p1), (3, .int p2), (4, .int p3), (5, .int p4), (6, .int p5), (7, .int x1), (8, .int x2), (9, .int a4)] [1, 2, 3, 4, 5, 6, 7, 0] rfl ?_
        exact hk8 1
  · intro k5 hk5
    refine g_icmp_ge 33 (by decide) 29 rfl dX2_clashWith_26 ?_ ?_
    · refine g_iconst 0 34 rfl dX2_clashWith_33 (by decide) ?_
      refine g_sub [(2, .int p1), (3, .int p2), (4, .int p3), (5, .int p4), (6, .int p5), (7, .int x1), (8, .int x2)] [4, 5, 6, 7, 8, 1, 0] rfl ?_
      exact hk5 0
    · refine g_iconst 1 30 rfl dX2_clashWith_29 (by decide) ?_
      refine g_goto 34 (by decide) dX2_clashWith_30 ?_
      refine g_sub [(2, .int p1), (3, .int p2), (4, .int p3), (5, .int p4), (6, .int p5), (7, .int x1), (8, .int x2)] [4, 5, 6, 7, 8, 1, 0] rfl ?_
      exact hk5 1
def fX2_showGreen (M : Mem) (j : Nat) (p0 : Int32) (p1 : Int32) (p2 : Int32) : Option (Unit × Mem) := clp (fX2_isByRequest M j p0) (fun x1 => jn (fun (a2 : Mem) => clp (fX2_isByRequest a2 j p0) (fun x4 => jn (fun (a5 : Mem) => some ((), a5)) (fun k6 => jn (fun (a7 : Unit) => grd (inb p0 6) (grd (inb p0 6) (bnd (mset a2 (j + 4) p0.toNatClampNeg ((a2 (j + 4) p0.toNatClampNeg) + 1)) (fun M9 => k6 M9)))) (fun k8 => if x4 = 0 then (k8 ()) else (clp (fX2_isGiven a2 j p0) (fun x10 => if x10 = 0 then (k6 a2) else (k8 ()))))))) (fun k3 => if x1 = 0 then (k3 M) else (clp (fX2_firstOf M j (M j 3) p0) (fun x11 => if p1 = x11 then (cl (fX2_decideRequest M j p0 p2) (fun u12 M13 => k3 M13)) else (k3 M)))))
set_option maxRecDepth 100000 in
set_option maxHeartbeats 4000000 in
theorem c_X2_showGreen {Ω : Wd} (l : Launch) (hO : OkW Ω) (hX : LX Ω) {j : Nat} (hj : isJ j) (M : Mem) (p0 : Int32) (p1 : Int32) (p2 : Int32) : ∀ r, fX2_showGreen M j p0 p1 p2 = some r → Ct l yX2_showGreen (.code yX2_showGreen cX2_showGreen 4 none) 2 43 Ω [.ref (wA Ω j), .int p0, .int p1, .int p2] M (cvV r) := by
  refine ofG [(0, .ref (wA Ω j)), (1, .int p0), (2, .int p1), (3, .int p2)] hO (by decide) rfl (Nat.le_of_ble_eq_true rfl) rfl ?_
  intro p e s m args below meth c
  unfold fX2_showGreen
  refine g_aload_n 0 rfl rfl 1 rfl dX2_showGreen_0 ?_
  refine g_iload_n 1 rfl rfl 2 rfl dX2_showGreen_1 ?_
  refine p_cVI j [.int p0] [] (c_X2_isByRequest l hO hX hj M p0) dX2_showGreen_2 uv_X2_165 rfl yk_X2_isByRequest ⟨by decide, by decide⟩ (lx_J hX hj).1 (lx_J hX hj).2 rfl (Nat.le_of_ble_eq_true rfl) rfl 5 rfl ?_
  intro x1
  refine g_join 27 (fun a2 => [(0, .ref (wA Ω j)), (1, .int p0)]) (fun a2 => []) (fun a2 => a2) ?_ ?_
  · intro a2
    refine g_aload_n 0 rfl rfl 28 rfl dX2_showGreen_27 ?_
    refine g_iload_n 1 rfl rfl 29 rfl dX2_showGreen_28 ?_
    refine p_cVI j [.int p0] [] (c_X2_isByRequest l hO hX hj a2 p0) dX2_showGreen_29 uv_X2_165 rfl yk_X2_isByRequest ⟨by decide, by decide⟩ (lx_J hX hj).1 (lx_J hX hj).2 rfl (Nat.le_of_ble_eq_true rfl) rfl 32 rfl ?_
    intro x4
    refine g_join 53 (fun a5 => []) (fun a5 => []) (fun a5 => a5) ?_ ?_
    · intro a5
      exact g_vret rfl dX2_showGreen_53
    · intro k6 hk6
      refine g_join 43 (fun a7 => [(0, .ref (wA Ω j)), (1, .int p0)]) (fun a7 => []) (fun a7 => a2) ?_ ?_
      · intro a7
        refine g_aload_n 0 rfl rfl 44 rfl dX2_showGreen_43 ?_
        refine w_getR (lx_J hX hj) rfl in_X2 12 (by decide) wf_X2_25 (j + 4) rfl 47 rfl dX2_showGreen_44 ?_
        refine g_iload_n 1 rfl rfl 48 rfl dX2_showGreen_47 ?_
        refine g_dup2 49 rfl dX2_showGreen_48 rfl rfl ?_
        refine w_iald (lx_J4 hX hj) 50 rfl dX2_showGreen_49 ?_
        refine g_iconst 1 51 rfl dX2_showGreen_50 (by decide) ?_
        refine g_iadd 52 rfl dX2_showGreen_51 ?_
        refine w_iast (lx_J4 hX hj) 53 rfl dX2_showGreen_52 ?_
        intro M9
        refine g_sub [] [] rfl ?_
        exact hk6 M9
      · intro k8 hk8
        refine g_if_eq 43 (by decide) 35 rfl dX2_showGreen_32 ?_ ?_
        · exact hk8 ()
        · refine g_aload_n 0 rfl rfl 36 rfl dX2_showGreen_35 ?_
          refine g_iload_n 1 rfl rfl 37 rfl dX2_showGreen_36 ?_
          refine p_cVI j [.int p0] [] (c_X2_isGiven l hO hX hj a2 p0) dX2_showGreen_37 uv_X2_172 rfl yk_X2_isGiven ⟨by decide, by decide⟩ (lx_J hX hj).1 (lx_J hX hj).2 rfl (Nat.le_of_ble_eq_true rfl) rfl 40 rfl ?_
          intro x10
          refine g_if_eq 53 (by decide) 43 rfl dX2_showGreen_40 ?_ ?_
          · refine g_sub [] [] rfl ?_
            exact hk6 a2
          · exact hk8 ()
  · intro k3 hk3
    refine g_if_eq 27 (by decide) 8 rfl dX2_showGreen_5 ?_ ?_
    · refine g_sub [(0, .ref (wA Ω j)), (1, .int p0)] [0, 1] rfl ?_
      exact hk3 M
    · refine g_iload_n 2 rfl rfl 9 rfl dX2_showGreen_8 ?_
      refine g_aload_n 0 rfl rfl 10 rfl dX2_showGreen_9 ?_
      refine g_aload_n 0 rfl rfl 11 rfl dX2_showGreen_10 ?_
      refine w_get (lx_J hX hj) rfl in_X2 3 (by decide) wf_X2_58 rfl 14 rfl dX2_showGreen_11 ?_
      refine g_iload_n 1 rfl rfl 15 rfl dX2_showGreen_14 ?_
      refine p_cVI j [.int (M j 3), .int p0] [.int p1] (c_X2_firstOf l hO hX hj M (M j 3) p0) dX2_showGreen_15 uv_X2_136 rfl yk_X2_firstOf ⟨by decide, by decide⟩ (lx_J hX hj).1 (lx_J hX hj).2 rfl (Nat.le_of_ble_eq_true rfl) rfl 18 rfl ?_
      intro x11
      refine g_icmp_ne 27 (by decide) 21 rfl dX2_showGreen_18 ?_ ?_
      · refine g_aload_n 0 rfl rfl 22 rfl dX2_showGreen_21 ?_
        refine g_iload_n 1 rfl rfl 23 rfl dX2_showGreen_22 ?_
        refine g_iload_n 3 rfl rfl 24 rfl dX2_showGreen_23 ?_
        refine g_cVV j [.int p0, .int p2] [] (c_X2_decideRequest l hO hX hj M p0 p2) dX2_showGreen_24 uv_X2_168 rfl yk_X2_decideRequest ⟨by decide, by decide⟩ (lx_J hX hj).1 (lx_J hX hj).2 rfl (Nat.le_of_ble_eq_true rfl) rfl 27 rfl ?_
        intro u12 M13
        refine g_sub [(0, .ref (wA Ω j)), (1, .int p0)] [0, 1] rfl ?_
        exact hk3 M13
      · refine g_sub [(0, .ref (wA Ω j)), (1, .int p0)] [0, 1] rfl ?_
        exact hk3 M
def fX2_litSet_L1 (j : Nat) (p1 : Int32) (M : Mem) (a1 : Int32) (a3 : Int32) (x5 : Int32) (k7 : (Int32 × Int32) → Option Int32) (a6 : Int32 × Int32) : Option Int32 := if M j 2 ≤ a6.2 then (some a6.1) else (clp (fX2_firstOf M j a3 a6.2) (fun x8 => jn (fun (a9 : Int32) => jn (fun (a11 : Int32) => clp (fX2_isByRequest M j a6.2) (fun x13 => jn (fun (a14 : Int32) => jn (fun (a16 : Int32) => bnd (a6.1 ||| a16) (fun x18 => bnd (a6.2 + 1) (fun x19 => k7 (x18, x19)))) (fun k17 => jn (fun (a20 : Unit) => k17 0) (fun k21 => if a14 = 0 then (k21 ()) else (clp (fX2_isOn M j a3 a6.2 x5 p1) (fun x22 => if x22 = 0 then (k21 ()) else (k17 (1 <<< (a6.2 &&& 31)))))))) (fun k15 => jn (fun (a23 : Unit) => k15 1) (fun k24 => if x13 = 0 then (k24 ()) else (if a11 = 0 then (k15 0) else (k24 ())))))) (fun k12 => if a9 = 0 then (clp (fX2_isGiven M j a6.2) (fun x25 => jn (fun (a26 : Unit) => k12 0) (fun k27 => if x25 = 0 then (k27 ()) else (if a1 = 0 then (k12 1) else (k27 ()))))) else (clp (fX2_isWaiting M j a6.2) (fun x28 => k12 x28)))) (fun k10 => if x5 = x8 then (k10 1) else (k10 0))))
def fX2_litSet (M : Mem) (j : Nat) (p0 : Int32) (p1 : Int32) : Option Int32 := jn (fun (a1 : Int32) => jn (fun (a3 : Int32) => clp (fX2_localSecond M j p0 p1) (fun x5 => lp (fX2_litSet_L1 j p1 M a1 a3 x5) FU (0, 0))) (fun k4 => if a1 = 0 then (k4 (M j 3)) else (k4 (1 - (M j 3))))) (fun k2 => if M j 4 = p0 then (k2 1) else (k2 0))
set_option maxRecDepth 100000 in
set_option maxHeartbeats 4000000 in
theorem c_X2_litSet {Ω : Wd} (l : Launch) (hO : OkW Ω) (hX : LX Ω) {j : Nat} (hj : isJ j) (M : Mem) (p0 : Int32) (p1 : Int32) : ∀ r, fX2_litSet M j p0 p1 = some r → Ct l yX2_litSet (.code yX2_litSet cX2_litSet 11 (some .int)) 2 46 Ω [.ref (wA Ω j), .int p0, .int p1] M ((cpI M) r) := by
  refine ofG [(0, .ref (wA Ω j)), (1, .int p0), (2, .int p1)] hO (by decide) rfl (Nat.le_of_ble_eq_true rfl) rfl ?_
  intro p e s m args below meth c
  unfold fX2_litSet
  refine g_aload_n 0 rfl rfl 1 rfl dX2_litSet_0 ?_
  refine w_get (lx_J hX hj) rfl in_X2 4 (by decide) wf_X2_9 rfl 4 rfl dX2_litSet_1 ?_
  refine g_iload_n 1 rfl rfl 5 rfl dX2_litSet_4 ?_
  refine g_join 13 (fun a1 => [(0, .ref (wA Ω j)), (1, .int p0), (2, .int p1)]) (fun a1 => [.int a1]) (fun a1 => M) ?_ ?_
  · intro a1
    refine g_istore_nA [(3, .int a1), (0, .ref (wA Ω j)), (1, .int p0), (2, .int p1)] rfl 14 rfl dX2_litSet_13 (by decide) rfl ?_
    refine g_iload_n 0 rfl rfl 15 rfl dX2_litSet_14 ?_
    refine g_join 31 (fun a3 => [(0, .ref (wA Ω j)), (1, .int p0), (2, .int p1), (3, .int a1)]) (fun a3 => [.int a3]) (fun a3 => M) ?_ ?_
    · intro a3
      refine g_istoreA [(4, .int a3), (0, .ref (wA Ω j)), (1, .int p0), (2, .int p1), (3, .int a1)] 33 rfl dX2_litSet_31 (by decide) rfl ?_
      refine g_aload_n 1 rfl rfl 34 rfl dX2_litSet_33 ?_
      refine g_iload_n 2 rfl rfl 35 rfl dX2_litSet_34 ?_
      refine g_iload_n 3 rfl rfl 36 rfl dX2_litSet_35 ?_
      refine p_cVI j [.int p0, .int p1] [] (c_X2_localSecond l hO hX hj M p0 p1) dX2_litSet_36 uv_X2_158 rfl yk_X2_localSecond ⟨by decide, by decide⟩ (lx_J hX hj).1 (lx_J hX hj).2 rfl (Nat.le_of_ble_eq_true rfl) rfl 39 rfl ?_
      intro x5
      refine g_istoreA [(5, .int x5), (4, .int a3), (0, .ref (wA Ω j)), (1, .int p0), (2, .int p1), (3, .int a1)] 41 rfl dX2_litSet_39 (by decide) rfl ?_
      refine g_iconst 0 42 rfl dX2_litSet_41 (by decide) ?_
      refine g_istoreA [(6, .int 0), (5, .int x5), (4, .int a3), (0, .ref (wA Ω j)), (1, .int p0), (2, .int p1), (3, .int a1)] 44 rfl dX2_litSet_42 (by decide) rfl ?_
      refine g_iconst 0 45 rfl dX2_litSet_44 (by decide) ?_
      refine g_istoreA [(7, .int 0), (6, .int 0), (5, .int x5), (4, .int a3), (0, .ref (wA Ω j)), (1, .int p0), (2, .int p1), (3, .int a1)] 47 rfl dX2_litSet_45 (by decide) rfl ?_
      refine g_sub [(0, .ref (wA Ω j)), (2, .int p1), (3, .int a1), (4, .int a3), (5, .int x5), (6, .int 0), (7, .int 0)] [4, 6, 7, 3, 2, 1, 0] rfl ?_
      refine g_loop 47 (fun a6 => [(0, .ref (wA Ω j)), (2, .int p1), (3, .int a1), (4, .int a3), (5, .int x5), (6, .int a6.1), (7, .int a6.2)]) (fun _ => []) (fun a6 => M) ?_ FU (0, 0)
      intro k7 hk7 a6
      unfold fX2_litSet_L1
      refine g_iload 6 rfl 49 rfl dX2_litSet_47 ?_
      refine g_aload_n 0 rfl rfl 50 rfl dX2_litSet_49 ?_
      refine w_get (lx_J hX hj) rfl in_X2 2 (by decide) wf_X2_55 rfl 53 rfl dX2_litSet_50 ?_
      refine g_icmp_ge 169 (by decide) 56 rfl dX2_litSet_53 ?_ ?_
      · refine g_iload 5 rfl 171 rfl dX2_litSet_169 ?_
        exact p_iret rfl dX2_litSet_171
      · refine g_iload 4 rfl 58 rfl dX2_litSet_56 ?_
        refine g_aload_n 0 rfl rfl 59 rfl dX2_litSet_58 ?_
        refine g_iload 3 rfl 61 rfl dX2_litSet_59 ?_
        refine g_iload 6 rfl 63 rfl dX2_litSet_61 ?_
        refine p_cVI j [.int a3, .int a6.2] [.int x5] (c_X2_firstOf l hO hX hj M a3 a6.2) dX2_litSet_63 uv_X2_136 rfl yk_X2_firstOf ⟨by decide, by decide⟩ (lx_J hX hj).1 (lx_J hX hj).2 rfl (Nat.le_of_ble_eq_true rfl) rfl 66 rfl ?_
        intro x8
        refine g_join 74 (fun a9 => [(0, .ref (wA Ω j)), (2, .int p1), (3, .int a1), (4, .int a3), (5, .int x5), (6, .int a6.1), (7, .int a6.2)]) (fun a9 => [.int a9]) (fun a9 => M) ?_ ?_
        · intro a9
          refine g_istoreA [(8, .int a9), (0, .ref (wA Ω j)), (2, .int p1), (3, .int a1), (4, .int a3), (5, .int x5), (6, .int a6.1), (7, .int a6.2)] 76 rfl dX2_litSet_74 (by decide) rfl ?_
          refine g_iload 0 rfl 78 rfl dX2_litSet_76 ?_
          refine g_join 108 (fun a11 => [(0, .ref (wA Ω j)), (2, .int p1), (3, .int a1), (4, .int a3), (5, .int x5), (6, .int a6.1), (7, .int a6.2)]) (fun a11 => [.int a11]) (fun a11 => M) ?_ ?_
          · intro a11
            refine g_istoreA [(9, .int a11), (0, .ref (wA Ω j)), (2, .int p1), (3, .int a1), (4, .int a3), (5, .int x5), (6, .int a6.1), (7, .int a6.2)] 110 rfl dX2_litSet_108 (by decide) rfl ?_
            refine g_aload_n 1 rfl rfl 111 rfl dX2_litSet_110 ?_
            refine g_iload 7 rfl 113 rfl dX2_litSet_111 ?_
            refine p_cVI j [.int a6.2] [] (c_X2_isByRequest l hO hX hj M a6.2) dX2_litSet_113 uv_X2_165 rfl yk_X2_isByRequest ⟨by decide, by decide⟩ (lx_J hX hj).1 (lx_J hX hj).2 rfl (Nat.le_of_ble_eq_true rfl) rfl 116 rfl ?_
            intro x13
            refine g_join 129 (fun a14 => [(0, .ref (wA Ω j)), (2, .int p1), (3, .int a1), (4, .int a3), (5, .int x5), (6, .int a6.1), (7, .int a6.2)]) (fun a14 => [.int a14]) (fun a14 => M) ?_ ?_
            · intro a14
              refine g_istoreA [(10, .int a14), (0, .ref (wA Ω j)), (2, .int p1), (3, .int a1), (4, .int a3), (5, .int x5), (6, .int a6.1), (7, .int a6.2)] 131 rfl dX2_litSet_129 (by decide) rfl ?_
              refine g_iload 6 rfl 133 rfl dX2_litSet_131 ?_
              refine g_iload 0 rfl 135 rfl dX2_litSet_133 ?_
              refine g_join 160 (fun a16 => [(0, .ref (wA Ω j)), (2, .int p1), (3, .int a1), (4, .int a3), (5, .int x5), (7, .int a6.2)]) (fun a16 => [.int a16, .int a6.1]) (fun a16 => M) ?_ ?_
              · intro a16
                refine g_ior 161 rfl dX2_litSet_160 ?_
                refine g_istore (fun x18 => [(6, .int x18), (0, .ref (wA Ω j)), (2, .int p1), (3, .int a1), (4, .int a3), (5, .int x5), (7, .int a6.2)]) 163 rfl dX2_litSet_161 (by decide) (fun _ => rfl) ?_
                intro x18
                refine g_iinc 6 rfl 1 (by decide) (fun x19 => [(7, .int x19), (6, .int x18), (0, .ref (wA Ω j)), (2, .int p1), (3, .int a1), (4, .int a3), (5, .int x5)]) 166 rfl dX2_litSet_163 (by decide) (fun _ => rfl) ?_
                intro x19
                refine g_goto 47 (by decide) dX2_litSet_166 ?_
                refine g_sub [(0, .ref (wA Ω j)), (2, .int p1), (3, .int a1), (4, .int a3), (5, .int x5), (6, .int x18), (7, .int x19)] [2, 3, 4, 5, 6, 1, 0] rfl ?_
                exact hk7 (x18, x19)
              · intro k17 hk17
                refine g_join 159 (fun a20 => [(0, .ref (wA Ω j)), (2, .int p1), (3, .int a1), (4, .int a3), (5, .int x5), (7, .int a6.2)]) (fun a20 => [.int a6.1]) (fun a20 => M) ?_ ?_
                · intro a20
                  refine g_iconst 0 160 rfl dX2_litSet_159 (by decide) ?_
                  exact hk17 0
                · intro k21 hk21
                  refine g_if_eq 159 (by decide) 138 rfl dX2_litSet_135 ?_ ?_
                  · refine g_sub [(0, .ref (wA Ω j)), (2, .int p1), (3, .int a1), (4, .int a3), (5, .int x5), (7, .int a6.2)] [1, 2, 3, 4, 5, 7] rfl ?_
                    exact hk21 ()
                  · refine g_aload_n 1 rfl rfl 139 rfl dX2_litSet_138 ?_
                    refine g_iload 4 rfl 141 rfl dX2_litSet_139 ?_
                    refine g_iload 7 rfl 143 rfl dX2_litSet_141 ?_
                    refine g_iload 5 rfl 145 rfl dX2_litSet_143 ?_
                    refine g_iload_n 2 rfl rfl 146 rfl dX2_litSet_145 ?_
                    refine p_cVI j [.int a3, .int a6.2, .int x5, .int p1] [.int a6.1] (c_X2_isOn l hO hX hj M a3 a6.2 x5 p1) dX2_litSet_146 uv_X2_139 rfl yk_X2_isOn ⟨by decide, by decide⟩ (lx_J hX hj).1 (lx_J hX hj).2 rfl (Nat.le_of_ble_eq_true rfl) rfl 149 rfl ?_
                    intro x22
                    refine g_if_eq 159 (by decide) 152 rfl dX2_litSet_149 ?_ ?_
                    · refine g_sub [(0, .ref (wA Ω j)), (2, .int p1), (3, .int a1), (4, .int a3), (5, .int x5), (7, .int a6.2)] [1, 2, 3, 4, 5, 7] rfl ?_
                      exact hk21 ()
                    · refine g_iconst 1 153 rfl dX2_litSet_152 (by decide) ?_
                      refine g_iload 7 rfl 155 rfl dX2_litSet_153 ?_
                      refine g_ishl 156 rfl dX2_litSet_155 ?_
                      refine g_goto 160 (by decide) dX2_litSet_156 ?_
                      refine g_sub [(0, .ref (wA Ω j)), (2, .int p1), (3, .int a1), (4, .int a3), (5, .int x5), (7, .int a6.2)] [1, 2, 3, 4, 5, 7] rfl ?_
                      exact hk17 (1 <<< (a6.2 &&& 31))
            · intro k15 hk15
              refine g_join 124 (fun a23 => [(0, .ref (wA Ω j)), (2, .int p1), (3, .int a1), (4, .int a3), (5, .int x5), (6, .int a6.1), (7, .int a6.2)]) (fun a23 => []) (fun a23 => M) ?_ ?_
              · intro a23
                refine g_iconst 1 125 rfl dX2_litSet_124 (by decide) ?_
                refine g_goto 129 (by decide) dX2_litSet_125 ?_
                exact hk15 1
              · intro k24 hk24
                refine g_if_eq 124 (by decide) 119 rfl dX2_litSet_116 ?_ ?_
                · refine g_sub [(0, .ref (wA Ω j)), (2, .int p1), (3, .int a1), (4, .int a3), (5, .int x5), (6, .int a6.1), (7, .int a6.2)] [1, 2, 3, 4, 5, 6, 7] rfl ?_
                  exact hk24 ()
                · refine g_iload 0 rfl 121 rfl dX2_litSet_119 ?_
                  refine g_if_eq 128 (by decide) 124 rfl dX2_litSet_121 ?_ ?_
                  · refine g_iconst 0 129 rfl dX2_litSet_128 (by decide) ?_
                    refine g_sub [(0, .ref (wA Ω j)), (2, .int p1), (3, .int a1), (4, .int a3), (5, .int x5), (6, .int a6.1), (7, .int a6.2)] [1, 2, 3, 4, 5, 6, 7] rfl ?_
                    exact hk15 0
                  · refine g_sub [(0, .ref (wA Ω j)), (2, .int p1), (3, .int a1), (4, .int a3), (5, .int x5), (6, .int a6.1), (7, .int a6.2)] [1, 2, 3, 4, 5, 6, 7] rfl ?_
                    exact hk24 ()
          · intro k12 hk12
            refine g_if_eq 90 (by decide) 81 rfl dX2_litSet_78 ?_ ?_
            · refine g_aload_n 1 rfl rfl 91 rfl dX2_litSet_90 ?_
              refine g_iload 7 rfl 93 rfl dX2_litSet_91 ?_
              refine p_cVI j [.int a6.2] [] (c_X2_isGiven l hO hX hj M a6.2) dX2_litSet_93 uv_X2_172 rfl yk_X2_isGiven ⟨by decide, by decide⟩ (lx_J hX hj).1 (lx_J hX hj).2 rfl (Nat.le_of_ble_eq_true rfl) rfl 96 rfl ?_
              intro x25
              refine g_join 107 (fun a26 => [(0, .ref (wA Ω j)), (2, .int p1), (3, .int a1), (4, .int a3), (5, .int x5), (6, .int a6.1), (7, .int a6.2)]) (fun a26 => []) (fun a26 => M) ?_ ?_
              · intro a26
                refine g_iconst 0 108 rfl dX2_litSet_107 (by decide) ?_
                exact hk12 0
              · intro k27 hk27
                refine g_if_eq 107 (by decide) 99 rfl dX2_litSet_96 ?_ ?_
                · refine g_sub [(0, .ref (wA Ω j)), (2, .int p1), (3, .int a1), (4, .int a3), (5, .int x5), (6, .int a6.1), (7, .int a6.2)] [1, 2, 3, 4, 5, 6, 7] rfl ?_
                  exact hk27 ()
                · refine g_iload_n 3 rfl rfl 100 rfl dX2_litSet_99 ?_
                  refine g_if_ne 107 (by decide) 103 rfl dX2_litSet_100 ?_ ?_
                  · refine g_iconst 1 104 rfl dX2_litSet_103 (by decide) ?_
                    refine g_goto 108 (by decide) dX2_litSet_104 ?_
                    refine g_sub [(0, .ref (wA Ω j)), (2, .int p1), (3, .int a1), (4, .int a3), (5, .int x5), (6, .int a6.1), (7, .int a6.2)] [1, 2, 3, 4, 5, 6, 7] rfl ?_
                    exact hk12 1
                  · refine g_sub [(0, .ref (wA Ω j)), (2, .int p1), (3, .int a1), (4, .int a3), (5, .int x5), (6, .int a6.1), (7, .int a6.2)] [1, 2, 3, 4, 5, 6, 7] rfl ?_
                    exact hk27 ()
            · refine g_aload_n 1 rfl rfl 82 rfl dX2_litSet_81 ?_
              refine g_iload 7 rfl 84 rfl dX2_litSet_82 ?_
              refine p_cVI j [.int a6.2] [] (c_X2_isWaiting l hO hX hj M a6.2) dX2_litSet_84 uv_X2_126 rfl yk_X2_isWaiting ⟨by decide, by decide⟩ (lx_J hX hj).1 (lx_J hX hj).2 rfl (Nat.le_of_ble_eq_true rfl) rfl 87 rfl ?_
              intro x28
              refine g_goto 108 (by decide) dX2_litSet_87 ?_
              refine g_sub [(0, .ref (wA Ω j)), (2, .int p1), (3, .int a1), (4, .int a3), (5, .int x5), (6, .int a6.1), (7, .int a6.2)] [1, 2, 3, 4, 5, 6, 7] rfl ?_
              exact hk12 x28
        · intro k10 hk10
          refine g_icmp_ne 73 (by decide) 69 rfl dX2_litSet_66 ?_ ?_
          · refine g_iconst 1 70 rfl dX2_litSet_69 (by decide) ?_
            refine g_goto 74 (by decide) dX2_litSet_70 ?_
            exact hk10 1
          · refine g_iconst 0 74 rfl dX2_litSet_73 (by decide) ?_
            exact hk10 0
    · intro k4 hk4
      refine g_if_eq 27 (by decide) 18 rfl dX2_litSet_15 ?_ ?_
      · refine g_aload_n 1 rfl rfl 28 rfl dX2_litSet_27 ?_
        refine w_get (lx_J hX hj) rfl in_X2 3 (by decide) wf_X2_58 rfl 31 rfl dX2_litSet_28 ?_
        refine g_sub [(0, .ref (wA Ω j)), (1, .int p0), (2, .int p1), (3, .int a1)] [1, 2, 3, 0] rfl ?_
        exact hk4 (M j 3)
      · refine g_iconst 1 19 rfl dX2_litSet_18 (by decide) ?_
        refine g_aload_n 1 rfl rfl 20 rfl dX2_litSet_19 ?_
        refine w_get (lx_J hX hj) rfl in_X2 3 (by decide) wf_X2_58 rfl 23 rfl dX2_litSet_20 ?_
        refine g_isub 24 rfl dX2_litSet_23 ?_
        refine g_goto 31 (by decide) dX2_litSet_24 ?_
        refine g_sub [(0, .ref (wA Ω j)), (1, .int p0), (2, .int p1), (3, .int a1)] [1, 2, 3, 0] rfl ?_
        exact hk4 (1 - (M j 3))
  · intro k2 hk2
    refine g_icmp_ne 12 (by decide) 8 rfl dX2_litSet_5 ?_ ?_
    · refine g_iconst 1 9 rfl dX2_litSet_8 (by decide) ?_
      refine g_goto 13 (by decide) dX2_litSet_9 ?_
      exact hk2 1
    · refine g_iconst 0 13 rfl dX2_litSet_12 (by decide) ?_
      exact hk2 0
def fX2_secondsOff (M : Mem) (j : Nat) (p0 : Int32) (p1 : Int32) (p2 : Int32) : Option Int32 := clp (fX2_firstOf M j (M j 3) p0) (fun x1 => clp (fX9_wrap M ((p1 - 1) - x1) p2) (fun x2 => clp (fX2_lengthOf M j (M j 3) p0) (fun x3 => clp (fJ9_max_7cf53 M 0 ((x2 - x3) + 1)) (fun x4 => some x4))))
set_option maxRecDepth 100000 in
set_option maxHeartbeats 4000000 in
theorem c_X2_secondsOff {Ω : Wd} (l : Launch) (hO : OkW Ω) (hX : LX Ω) {j : Nat} (hj : isJ j) (M : Mem) (p0 : Int32) (p1 : Int32) (p2 : Int32) : ∀ r, fX2_secondsOff M j p0 p1 p2 = some r → Ct l yX2_secondsOff (.code yX2_secondsOff cX2_secondsOff 5 (some .int)) 1 22 Ω [.ref (wA Ω j), .int p0, .int p1, .int p2] M ((cpI M) r) := by
  refine ofG [(0, .ref (wA Ω j)), (1, .int p0), (2, .int p1), (3, .int p2)] hO (by decide) rfl (Nat.le_of_ble_eq_true rfl) rfl ?_
  intro p e s m args below meth c
  unfold fX2_secondsOff
  refine g_iload_n 2 rfl rfl 1 rfl dX2_secondsOff_0 ?_
  refine g_iconst 1 2 rfl dX2_secondsOff_1 (by decide) ?_
  refine g_isub 3 rfl dX2_secondsOff_2 ?_
  refine g_aload_n 0 rfl rfl 4 rfl dX2_secondsOff_3 ?_
  refine g_aload_n 0 rfl rfl 5 rfl dX2_secondsOff_4 ?_
  refine w_get (lx_J hX hj) rfl in_X2 3 (by decide) wf_X2_58 rfl 8 rfl dX2_secondsOff_5 ?_
  refine g_iload_n 1 rfl rfl 9 rfl dX2_secondsOff_8 ?_
  refine p_cVI j [.int (M j 3), .int p0] [.int (p1 - 1)] (c_X2_firstOf l hO hX hj M (M j 3) p0) dX2_secondsOff_9 uv_X2_136 rfl yk_X2_firstOf ⟨by decide, by decide⟩ (lx_J hX hj).1 (lx_J hX hj).2 rfl (Nat.le_of_ble_eq_true rfl) rfl 12 rfl ?_
  intro x1
  refine g_isub 13 rfl dX2_secondsOff_12 ?_
  refine g_iload_n 3 rfl rfl 14 rfl dX2_secondsOff_13 ?_
  refine p_cSNI [.int ((p1 - 1) - x1), .int p2] [] (c_X9_wrap l hO M ((p1 - 1) - x1) p2) dX2_secondsOff_14 wk_X2_133 ws_X9_wrap wn_X9 wc_X9_wrap yk_X9_wrap ⟨by decide, by decide⟩ (Nat.le_of_ble_eq_true rfl) rfl 17 rfl ?_
  intro x2
  refine g_istoreA [(4, .int x2), (0, .ref (wA Ω j)), (1, .int p0), (2, .int p1), (3, .int p2)] 19 rfl dX2_secondsOff_17 (by decide) rfl ?_
  refine g_iconst 0 20 rfl dX2_secondsOff_19 (by decide) ?_
  refine g_iload 0 rfl 22 rfl dX2_secondsOff_20 ?_
  refine g_aload_n 1 rfl rfl 23 rfl dX2_secondsOff_22 ?_
  refine g_aload_n 1 rfl rfl 24 rfl dX2_secondsOff_23 ?_
  refine w_get (lx_J hX hj) rfl in_X2 3 (by decide) wf_X2_58 rfl 27 rfl dX2_secondsOff_24 ?_
  refine g_iload_n 2 rfl rfl 28 rfl dX2_secondsOff_27 ?_
  refine p_cVI j [.int (M j 3), .int p0] [.int x2, .int 0] (c_X2_lengthOf l hO hX hj M (M j 3) p0) dX2_secondsOff_28 uv_X2_87 rfl yk_X2_lengthOf ⟨by decide, by decide⟩ (lx_J hX hj).1 (lx_J hX hj).2 rfl (Nat.le_of_ble_eq_true rfl) rfl 31 rfl ?_
  intro x3
  refine g_isub 32 rfl dX2_secondsOff_31 ?_
  refine g_iconst 1 33 rfl dX2_secondsOff_32 (by decide) ?_
  refine g_iadd 34 rfl dX2_secondsOff_33 ?_
  refine p_cTI [.int 0, .int ((x2 - x3) + 1)] [] (c_J9_max_7cf53 l hO M 0 ((x2 - x3) + 1)) dX2_secondsOff_34 ut_X2_187 yk_J9_max_7cf53 ⟨by decide, by decide⟩ (Nat.le_of_ble_eq_true rfl) rfl 37 rfl ?_
  intro x4
  exact p_iret rfl dX2_secondsOff_37
def fX2_secondsUntilOn (M : Mem) (j : Nat) (p0 : Int32) (p1 : Int32) (p2 : Int32) (p3 : Int32) : Option Int32 := clp (fX2_firstOf M j p0 p1) (fun x1 => clp (fX9_wrap M (p2 - x1) p3) (fun x2 => clp (fX2_lengthOf M j p0 p1) (fun x3 => jn (fun (a4 : Int32) => some a4) (fun k5 => if x3 ≤ x2 then (k5 (p3 - x2)) else (k5 0)))))
set_option maxRecDepth 100000 in
set_option maxHeartbeats 4000000 in
theorem c_X2_secondsUntilOn {Ω : Wd} (l : Launch) (hO : OkW Ω) (hX : LX Ω) {j : Nat} (hj : isJ j) (M : Mem) (p0 : Int32) (p1 : Int32) (p2 : Int32) (p3 : Int32) : ∀ r, fX2_secondsUntilOn M j p0 p1 p2 p3 = some r → Ct l yX2_secondsUntilOn (.code yX2_secondsUntilOn cX2_secondsUntilOn 6 (some .int)) 1 22 Ω [.ref (wA Ω j), .int p0, .int p1, .int p2, .int p3] M ((cpI M) r) := by
  refine ofG [(0, .ref (wA Ω j)), (1, .int p0), (2, .int p1), (3, .int p2), (4, .int p3)] hO (by decide) rfl (Nat.le_of_ble_eq_true rfl) rfl ?_
  intro p e s m args below meth c
  unfold fX2_secondsUntilOn
  refine g_iload_n 3 rfl rfl 1 rfl dX2_secondsUntilOn_0 ?_
  refine g_aload_n 0 rfl rfl 2 rfl dX2_secondsUntilOn_1 ?_
  refine g_iload_n 1 rfl rfl 3 rfl dX2_secondsUntilOn_2 ?_
  refine g_iload_n 2 rfl rfl 4 rfl dX2_secondsUntilOn_3 ?_
  refine p_cVI j [.int p0, .int p1] [.int p2] (c_X2_firstOf l hO hX hj M p0 p1) dX2_secondsUntilOn_4 uv_X2_136 rfl yk_X2_firstOf ⟨by decide, by decide⟩ (lx_J hX hj).1 (lx_J hX hj).2 rfl (Nat.le_of_ble_eq_true rfl) rfl 7 rfl ?_
  intro x1
  refine g_isub 8 rfl dX2_secondsUntilOn_7 ?_
  refine g_iload 4 rfl 10 rfl dX2_secondsUntilOn_8 ?_
  refine p_cSNI [.int (p2 - x1), .int p3] [] (c_X9_wrap l hO M (p2 - x1) p3) dX2_secondsUntilOn_10 wk_X2_133 ws_X9_wrap wn_X9 wc_X9_wrap yk_X9_wrap ⟨by decide, by decide⟩ (Nat.le_of_ble_eq_true rfl) rfl 13 rfl ?_
  intro x2
  refine g_istoreA [(5, .int x2), (0, .ref (wA Ω j)), (1, .int p0), (2, .int p1), (3, .int p2), (4, .int p3)] 15 rfl dX2_secondsUntilOn_13 (by decide) rfl ?_
  refine g_iload 0 rfl 17 rfl dX2_secondsUntilOn_15 ?_
  refine g_aload_n 1 rfl rfl 18 rfl dX2_secondsUntilOn_17 ?_
  refine g_iload_n 2 rfl rfl 19 rfl dX2_secondsUntilOn_18 ?_
  refine g_iload_n 3 rfl rfl 20 rfl dX2_secondsUntilOn_19 ?_
  refine p_cVI j [.int p0, .int p1] [.int x2] (c_X2_lengthOf l hO hX hj M p0 p1) dX2_secondsUntilOn_20 uv_X2_87 rfl yk_X2_lengthOf ⟨by decide, by decide⟩ (lx_J hX hj).1 (lx_J hX hj).2 rfl (Nat.le_of_ble_eq_true rfl) rfl 23 rfl ?_
  intro x3
  refine g_join 35 (fun a4 => []) (fun a4 => [.int a4]) (fun a4 => M) ?_ ?_
  · intro a4
    exact p_iret rfl dX2_secondsUntilOn_35
  · intro k5 hk5
    refine g_icmp_ge 30 (by decide) 26 rfl dX2_secondsUntilOn_23 ?_ ?_
    · refine g_iload 5 rfl 32 rfl dX2_secondsUntilOn_30 ?_
      refine g_iload 0 rfl 34 rfl dX2_secondsUntilOn_32 ?_
      refine g_isub 35 rfl dX2_secondsUntilOn_34 ?_
      refine g_sub [] [] rfl ?_
      exact hk5 (p3 - x2)
    · refine g_iconst 0 27 rfl dX2_secondsUntilOn_26 (by decide) ?_
      refine g_goto 35 (by decide) dX2_secondsUntilOn_27 ?_
      refine g_sub [] [] rfl ?_
      exact hk5 0
def fX2_amountOf (M : Mem) (j : Nat) (p0 : Int32) : Option Int32 := if p0 = 1 then (some (M j 2)) else (if p0 = 2 then (clp (fX2_conflictCount M j) (fun x9 => some x9)) else (if p0 = 3 then (clp (fX2_greenCount M j 0) (fun x7 => clp (fX2_greenCount M j 1) (fun x8 => some (x7 + x8)))) else (if p0 = 4 then (some 0) else (if p0 = 5 then (clp (fX2_litSum M j) (fun x6 => some x6)) else (if p0 = 6 then (some (M j 5)) else (if p0 = 7 then (clp (fX2_waitingCount M j) (fun x5 => some x5)) else (if p0 = 8 then (some (M j 6)) else (if p0 = 9 then (clp (fX2_isChangePlanned M j) (fun x2 => jn (fun (a3 : Int32) => some a3) (fun k4 => if x2 = 0 then (k4 0) else (k4 1)))) else (if p0 = 10 then (clp (fX2_headSum M j) (fun x1 => some x1)) else (some 0))))))))))
set_option maxRecDepth 100000 in
set_option maxHeartbeats 4000000 in
theorem c_X2_amountOf {Ω : Wd} (l : Launch) (hO : OkW Ω) (hX : LX Ω) {j : Nat} (hj : isJ j) (M : Mem) (p0 : Int32) : ∀ r, fX2_amountOf M j p0 = some r → Ct l yX2_amountOf (.code yX2_amountOf cX2_amountOf 2 (some .int)) 4 89 Ω [.ref (wA Ω j), .int p0] M ((cpI M) r) := by
  refine ofG [(0, .ref (wA Ω j)), (1, .int p0)] hO (by decide) rfl (Nat.le_of_ble_eq_true rfl) rfl ?_
  intro p e s m args below meth c
  unfold fX2_amountOf
  refine g_iload_n 1 rfl rfl 1 rfl dX2_amountOf_0 ?_
  refine g_case ?_ ?_
  · intro h1_0
    refine g_tin (off := 55) 56 (by rw [h1_0]; decide) (by rw [h1_0]; decide) (by rw [h1_0]; rfl) (by decide) dX2_amountOf_1 ?_
    refine g_aload_n 0 rfl rfl 57 rfl dX2_amountOf_56 ?_
    refine w_get (lx_J hX hj) rfl in_X2 2 (by decide) wf_X2_55 rfl 60 rfl dX2_amountOf_57 ?_
    exact p_iret rfl dX2_amountOf_60
  · intro h1_0
    refine g_case ?_ ?_
    · intro h1_1
      refine g_tin (off := 60) 61 (by rw [h1_1]; decide) (by rw [h1_1]; decide) (by rw [h1_1]; rfl) (by decide) dX2_amountOf_1 ?_
      refine g_aload_n 0 rfl rfl 62 rfl dX2_amountOf_61 ?_
      refine p_cVI j [] [] (c_X2_conflictCount l hO hX hj M) dX2_amountOf_62 uv_X2_90 rfl yk_X2_conflictCount ⟨by decide, by decide⟩ (lx_J hX hj).1 (lx_J hX hj).2 rfl (Nat.le_of_ble_eq_true rfl) rfl 65 rfl ?_
      intro x9
      exact p_iret rfl dX2_amountOf_65
    · intro h1_1
      refine g_case ?_ ?_
      · intro h1_2
        refine g_tin (off := 65) 66 (by rw [h1_2]; decide) (by rw [h1_2]; decide) (by rw [h1_2]; rfl) (by decide) dX2_amountOf_1 ?_
        refine g_aload_n 0 rfl rfl 67 rfl dX2_amountOf_66 ?_
        refine g_iconst 0 68 rfl dX2_amountOf_67 (by decide) ?_
        refine p_cVI j [.int 0] [] (c_X2_greenCount l hO hX hj M 0) dX2_amountOf_68 uv_X2_94 rfl yk_X2_greenCount ⟨by decide, by decide⟩ (lx_J hX hj).1 (lx_J hX hj).2 rfl (Nat.le_of_ble_eq_true rfl) rfl 71 rfl ?_
        intro x7
        refine g_aload_n 0 rfl rfl 72 rfl dX2_amountOf_71 ?_
        refine g_iconst 1 73 rfl dX2_amountOf_72 (by decide) ?_
        refine p_cVI j [.int 1] [.int x7] (c_X2_greenCount l hO hX hj M 1) dX2_amountOf_73 uv_X2_94 rfl yk_X2_greenCount ⟨by decide, by decide⟩ (lx_J hX hj).1 (lx_J hX hj).2 rfl (Nat.le_of_ble_eq_true rfl) rfl 76 rfl ?_
        intro x8
        refine g_iadd 77 rfl dX2_amountOf_76 ?_
        exact p_iret rfl dX2_amountOf_77
      · intro h1_2
        refine g_case ?_ ?_
        · intro h1_3
          refine g_tin (off := 115) 116 (by rw [h1_3]; decide) (by rw [h1_3]; decide) (by rw [h1_3]; rfl) (by decide) dX2_amountOf_1 ?_
          refine g_iconst 0 117 rfl dX2_amountOf_116 (by decide) ?_
          exact p_iret rfl dX2_amountOf_117
        · intro h1_3
          refine g_case ?_ ?_
          · intro h1_4
            refine g_tin (off := 77) 78 (by rw [h1_4]; decide) (by rw [h1_4]; decide) (by rw [h1_4]; rfl) (by decide) dX2_amountOf_1 ?_
            refine g_aload_n 0 rfl rfl 79 rfl dX2_amountOf_78 ?_
            refine p_cVI j [] [] (c_X2_litSum l hO hX hj M) dX2_amountOf_79 uv_X2_98 rfl yk_X2_litSum ⟨by decide, by decide⟩ (lx_J hX hj).1 (lx_J hX hj).2 rfl (Nat.le_of_ble_eq_true rfl) rfl 82 rfl ?_
            intro x6
            exact p_iret rfl dX2_amountOf_82
          · intro h1_4
            refine g_case ?_ ?_
            · intro h1_5
              refine g_tin (off := 82) 83 (by rw [h1_5]; decide) (by rw [h1_5]; decide) (by rw [h1_5]; rfl) (by decide) dX2_amountOf_1 ?_
              refine g_aload_n 0 rfl rfl 84 rfl dX2_amountOf_83 ?_
              refine w_get (lx_J hX hj) rfl in_X2 5 (by decide) wf_X2_61 rfl 87 rfl dX2_amountOf_84 ?_
              exact p_iret rfl dX2_amountOf_87
            · intro h1_5
              refine g_case ?_ ?_
              · intro h1_6
                refine g_tin (off := 87) 88 (by rw [h1_6]; decide) (by rw [h1_6]; decide) (by rw [h1_6]; rfl) (by decide) dX2_amountOf_1 ?_
                refine g_aload_n 0 rfl rfl 89 rfl dX2_amountOf_88 ?_
                refine p_cVI j [] [] (c_X2_waitingCount l hO hX hj M) dX2_amountOf_89 uv_X2_101 rfl yk_X2_waitingCount ⟨by decide, by decide⟩ (lx_J hX hj).1 (lx_J hX hj).2 rfl (Nat.le_of_ble_eq_true rfl) rfl 92 rfl ?_
                intro x5
                exact p_iret rfl dX2_amountOf_92
              · intro h1_6
                refine g_case ?_ ?_
                · intro h1_7
                  refine g_tin (off := 92) 93 (by rw [h1_7]; decide) (by rw [h1_7]; decide) (by rw [h1_7]; rfl) (by decide) dX2_amountOf_1 ?_
                  refine g_aload_n 0 rfl rfl 94 rfl dX2_amountOf_93 ?_
                  refine w_get (lx_J hX hj) rfl in_X2 6 (by decide) wf_X2_64 rfl 97 rfl dX2_amountOf_94 ?_
                  exact p_iret rfl dX2_amountOf_97
                · intro h1_7
                  refine g_case ?_ ?_
                  · intro h1_8
                    refine g_tin (off := 97) 98 (by rw [h1_8]; decide) (by rw [h1_8]; decide) (by rw [h1_8]; rfl) (by decide) dX2_amountOf_1 ?_
                    refine g_aload_n 0 rfl rfl 99 rfl dX2_amountOf_98 ?_
                    refine p_cVI j [] [] (c_X2_isChangePlanned l hO hX hj M) dX2_amountOf_99 uv_X2_104 rfl yk_X2_isChangePlanned ⟨by decide, by decide⟩ (lx_J hX hj).1 (lx_J hX hj).2 rfl (Nat.le_of_ble_eq_true rfl) rfl 102 rfl ?_
                    intro x2
                    refine g_join 110 (fun a3 => []) (fun a3 => [.int a3]) (fun a3 => M) ?_ ?_
                    · intro a3
                      exact p_iret rfl dX2_amountOf_110
                    · intro k4 hk4
                      refine g_if_eq 109 (by decide) 105 rfl dX2_amountOf_102 ?_ ?_
                      · refine g_iconst 0 110 rfl dX2_amountOf_109 (by decide) ?_
                        refine g_sub [] [] rfl ?_
                        exact hk4 0
                      · refine g_iconst 1 106 rfl dX2_amountOf_105 (by decide) ?_
                        refine g_goto 110 (by decide) dX2_amountOf_106 ?_
                        refine g_sub [] [] rfl ?_
                        exact hk4 1
                  · intro h1_8
                    refine g_case ?_ ?_
                    · intro h1_9
                      refine g_tin (off := 110) 111 (by rw [h1_9]; decide) (by rw [h1_9]; decide) (by rw [h1_9]; rfl) (by decide) dX2_amountOf_1 ?_
                      refine g_aload_n 0 rfl rfl 112 rfl dX2_amountOf_111 ?_
                      refine p_cVI j [] [] (c_X2_headSum l hO hX hj M) dX2_amountOf_112 uv_X2_108 rfl yk_X2_headSum ⟨by decide, by decide⟩ (lx_J hX hj).1 (lx_J hX hj).2 rfl (Nat.le_of_ble_eq_true rfl) rfl 115 rfl ?_
                      intro x1
                      exact p_iret rfl dX2_amountOf_115
                    · intro h1_9
                      refine g_tout 116 (ts_out (fun z h1 h2 e => by have q0 := ts_ne (z := 1) h1_0 (by decide); have q1 := ts_ne (z := 2) h1_1 (by decide); have q2 := ts_ne (z := 3) h1_2 (by decide); have q3 := ts_ne (z := 4) h1_3 (by decide); have q4 := ts_ne (z := 5) h1_4 (by decide); have q5 := ts_ne (z := 6) h1_5 (by decide); have q6 := ts_ne (z := 7) h1_6 (by decide); have q7 := ts_ne (z := 8) h1_7 (by decide); have q8 := ts_ne (z := 9) h1_8 (by decide); have q9 := ts_ne (z := 10) h1_9 (by decide); omega)) (by decide) dX2_amountOf_1 ?_
                      refine g_iconst 0 117 rfl dX2_amountOf_116 (by decide) ?_
                      exact p_iret rfl dX2_amountOf_117
def fX2_reasonAgainstGreen_L1 (j : Nat) (p0 : Int32) (p1 : Int32) (p2 : Int32) (p3 : Int32) (p4 : Int32) (M : Mem) (k2 : (Int32 × Int32) → Option Int32) (a1 : Int32 × Int32) : Option Int32 := if M j 2 ≤ a1.2 then (some a1.1) else (clp (fX2_areInConflict M j p1 a1.2) (fun x3 => jn (fun (a4 : Int32) => bnd (a1.2 + 1) (fun x6 => k2 (a4, x6))) (fun k5 => if x3 = 0 then (k5 a1.1) else (clp (fX2_hasGreen M j p0 a1.2) (fun x7 => if x7 = 0 then (k5 a1.1) else (clp (fX2_clearanceFrom M j p1 a1.2) (fun x8 => clp (fX2_clearanceFrom M j a1.2 p1) (fun x9 => clp (fX2_clashWith M j ((p0 * 6) + a1.2) p2 p3 x8 x9 p4) (fun x10 => clp (fX9_earlierReason M a1.1 x10) (fun x11 => k5 x11))))))))))
def fX2_reasonAgainstGreen (M : Mem) (j : Nat) (p0 : Int32) (p1 : Int32) (p2 : Int32) (p3 : Int32) (p4 : Int32) : Option Int32 := grd (inb p1 6) (if M (j + 3) p1.toNatClampNeg ≤ p3 then (if p3 ≤ p4 - 5 then (lp (fX2_reasonAgainstGreen_L1 j p0 p1 p2 p3 p4 M) FU (0, 0)) else (some 2)) else (some 1))
set_option maxRecDepth 100000 in
set_option maxHeartbeats 4000000 in
theorem c_X2_reasonAgainstGreen {Ω : Wd} (l : Launch) (hO : OkW Ω) (hX : LX Ω) {j : Nat} (hj : isJ j) (M : Mem) (p0 : Int32) (p1 : Int32) (p2 : Int32) (p3 : Int32) (p4 : Int32) : ∀ r, fX2_reasonAgainstGreen M j p0 p1 p2 p3 p4 = some r → Ct l yX2_reasonAgainstGreen (.code yX2_reasonAgainstGreen cX2_reasonAgainstGreen 11 (some .int)) 3 75 Ω [.ref (wA Ω j), .int p0, .int p1, .int p2, .int p3, .int p4] M ((cpI M) r) := by
  refine ofG [(0, .ref (wA Ω j)), (1, .int p0), (2, .int p1), (3, .int p2), (4, .int p3), (5, .int p4)] hO (by decide) rfl (Nat.le_of_ble_eq_true rfl) rfl ?_
  intro p e s m args below meth c
  unfold fX2_reasonAgainstGreen
  refine g_iload 4 rfl 2 rfl dX2_reasonAgainstGreen_0 ?_
  refine g_aload_n 0 rfl rfl 3 rfl dX2_reasonAgainstGreen_2 ?_
  refine w_getR (lx_J hX hj) rfl in_X2 11 (by decide) wf_X2_22 (j + 3) rfl 6 rfl dX2_reasonAgainstGreen_3 ?_
  refine g_iload_n 2 rfl rfl 7 rfl dX2_reasonAgainstGreen_6 ?_
  refine w_iald (lx_J3 hX hj) 8 rfl dX2_reasonAgainstGreen_7 ?_
  refine g_icmp_ge 13 (by decide) 11 rfl dX2_reasonAgainstGreen_8 ?_ ?_
  · refine g_iload 4 rfl 15 rfl dX2_reasonAgainstGreen_13 ?_
    refine g_iload 5 rfl 17 rfl dX2_reasonAgainstGreen_15 ?_
    refine g_iconst 5 18 rfl dX2_reasonAgainstGreen_17 (by decide) ?_
    refine g_isub 19 rfl dX2_reasonAgainstGreen_18 ?_
    refine g_icmp_le 24 (by decide) 22 rfl dX2_reasonAgainstGreen_19 ?_ ?_
    · refine g_iconst 0 25 rfl dX2_reasonAgainstGreen_24 (by decide) ?_
      refine g_istoreA [(6, .int 0), (0, .ref (wA Ω j)), (1, .int p0), (2, .int p1), (3, .int p2), (4, .int p3), (5, .int p4)] 27 rfl dX2_reasonAgainstGreen_25 (by decide) rfl ?_
      refine g_iconst 0 28 rfl dX2_reasonAgainstGreen_27 (by decide) ?_
      refine g_istoreA [(7, .int 0), (6, .int 0), (0, .ref (wA Ω j)), (1, .int p0), (2, .int p1), (3, .int p2), (4, .int p3), (5, .int p4)] 30 rfl dX2_reasonAgainstGreen_28 (by decide) rfl ?_
      refine g_sub [(0, .ref (wA Ω j)), (1, .int p0), (2, .int p1), (3, .int p2), (4, .int p3), (5, .int p4), (6, .int 0), (7, .int 0)] [2, 3, 4, 5, 6, 7, 1, 0] rfl ?_
      refine g_loop 30 (fun a1 => [(0, .ref (wA Ω j)), (1, .int p0), (2, .int p1), (3, .int p2), (4, .int p3), (5, .int p4), (6, .int a1.1), (7, .int a1.2)]) (fun _ => []) (fun a1 => M) ?_ FU (0, 0)
      intro k2 hk2 a1
      unfold fX2_reasonAgainstGreen_L1
      refine g_iload 7 rfl 32 rfl dX2_reasonAgainstGreen_30 ?_
      refine g_aload_n 0 rfl rfl 33 rfl dX2_reasonAgainstGreen_32 ?_
      refine w_get (lx_J hX hj) rfl in_X2 2 (by decide) wf_X2_55 rfl 36 rfl dX2_reasonAgainstGreen_33 ?_
      refine g_icmp_ge 114 (by decide) 39 rfl dX2_reasonAgainstGreen_36 ?_ ?_
      · refine g_iload 6 rfl 116 rfl dX2_reasonAgainstGreen_114 ?_
        exact p_iret rfl dX2_reasonAgainstGreen_116
      · refine g_aload_n 0 rfl rfl 40 rfl dX2_reasonAgainstGreen_39 ?_
        refine g_iload_n 2 rfl rfl 41 rfl dX2_reasonAgainstGreen_40 ?_
        refine g_iload 7 rfl 43 rfl dX2_reasonAgainstGreen_41 ?_
        refine p_cVI j [.int p1, .int a1.2] [] (c_X2_areInConflict l hO hX hj M p1 a1.2) dX2_reasonAgainstGreen_43 uv_X2_111 rfl yk_X2_areInConflict ⟨by decide, by decide⟩ (lx_J hX hj).1 (lx_J hX hj).2 rfl (Nat.le_of_ble_eq_true rfl) rfl 46 rfl ?_
        intro x3
        refine g_join 108 (fun a4 => [(0, .ref (wA Ω j)), (1, .int p0), (2, .int p1), (3, .int p2), (4, .int p3), (5, .int p4), (6, .int a4), (7, .int a1.2)]) (fun a4 => []) (fun a4 => M) ?_ ?_
        · intro a4
          refine g_iinc 7 rfl 1 (by decide) (fun x6 => [(7, .int x6), (0, .ref (wA Ω j)), (1, .int p0), (2, .int p1), (3, .int p2), (4, .int p3), (5, .int p4), (6, .int a4)]) 111 rfl dX2_reasonAgainstGreen_108 (by decide) (fun _ => rfl) ?_
          intro x6
          refine g_goto 30 (by decide) dX2_reasonAgainstGreen_111 ?_
          refine g_sub [(0, .ref (wA Ω j)), (1, .int p0), (2, .int p1), (3, .int p2), (4, .int p3), (5, .int p4), (6, .int a4), (7, .int x6)] [1, 2, 3, 4, 5, 6, 7, 0] rfl ?_
          exact hk2 (a4, x6)
        · intro k5 hk5
          refine g_if_eq 108 (by decide) 49 rfl dX2_reasonAgainstGreen_46 ?_ ?_
          · exact hk5 a1.1
          · refine g_aload_n 0 rfl rfl 50 rfl dX2_reasonAgainstGreen_49 ?_
            refine g_iload_n 1 rfl rfl 51 rfl dX2_reasonAgainstGreen_50 ?_
            refine g_iload 7 rfl 53 rfl dX2_reasonAgainstGreen_51 ?_
            refine p_cVI j [.int p0, .int a1.2] [] (c_X2_hasGreen l hO hX hj M p0 a1.2) dX2_reasonAgainstGreen_53 uv_X2_123 rfl yk_X2_hasGreen ⟨by decide, by decide⟩ (lx_J hX hj).1 (lx_J hX hj).2 rfl (Nat.le_of_ble_eq_true rfl) rfl 56 rfl ?_
            intro x7
            refine g_if_eq 108 (by decide) 59 rfl dX2_reasonAgainstGreen_56 ?_ ?_
            · exact hk5 a1.1
            · refine g_aload_n 0 rfl rfl 60 rfl dX2_reasonAgainstGreen_59 ?_
              refine g_iload_n 2 rfl rfl 61 rfl dX2_reasonAgainstGreen_60 ?_
              refine g_iload 7 rfl 63 rfl dX2_reasonAgainstGreen_61 ?_
              refine p_cVI j [.int p1, .int a1.2] [] (c_X2_clearanceFrom l hO hX hj M p1 a1.2) dX2_reasonAgainstGreen_63 uv_X2_83 rfl yk_X2_clearanceFrom ⟨by decide, by decide⟩ (lx_J hX hj).1 (lx_J hX hj).2 rfl (Nat.le_of_ble_eq_true rfl) rfl 66 rfl ?_
              intro x8
              refine g_istoreA [(8, .int x8), (0, .ref (wA Ω j)), (1, .int p0), (2, .int p1), (3, .int p2), (4, .int p3), (5, .int p4), (6, .int a1.1), (7, .int a1.2)] 68 rfl dX2_reasonAgainstGreen_66 (by decide) rfl ?_
              refine g_aload_n 1 rfl rfl 69 rfl dX2_reasonAgainstGreen_68 ?_
              refine g_iload 8 rfl 71 rfl dX2_reasonAgainstGreen_69 ?_
              refine g_iload_n 3 rfl rfl 72 rfl dX2_reasonAgainstGreen_71 ?_
              refine p_cVI j [.int a1.2, .int p1] [] (c_X2_clearanceFrom l hO hX hj M a1.2 p1) dX2_reasonAgainstGreen_72 uv_X2_83 rfl yk_X2_clearanceFrom ⟨by decide, by decide⟩ (lx_J hX hj).1 (lx_J hX hj).2 rfl (Nat.le_of_ble_eq_true rfl) rfl 75 rfl ?_
              intro x9
              refine g_istoreA [(9, .int x9), (8, .int x8), (0, .ref (wA Ω j)), (1, .int p0), (2, .int p1), (3, .int p2), (4, .int p3), (5, .int p4), (6, .int a1.1), (7, .int a1.2)] 77 rfl dX2_reasonAgainstGreen_75 (by decide) rfl ?_
              refine g_aload_n 2 rfl rfl 78 rfl dX2_reasonAgainstGreen_77 ?_
              refine g_iload_n 3 rfl rfl 79 rfl dX2_reasonAgainstGreen_78 ?_
              refine g_bipush 6 81 rfl dX2_reasonAgainstGreen_79 (by decide) ?_
              refine g_imul 82 rfl dX2_reasonAgainstGreen_81 ?_
              refine g_iload 9 rfl 84 rfl dX2_reasonAgainstGreen_82 ?_
              refine g_iadd 85 rfl dX2_reasonAgainstGreen_84 ?_
              refine g_iload_n 5 rfl rfl 86 rfl dX2_reasonAgainstGreen_85 ?_
              refine g_iload 6 rfl 88 rfl dX2_reasonAgainstGreen_86 ?_
              refine g_iload 1 rfl 90 rfl dX2_reasonAgainstGreen_88 ?_
              refine g_iload 0 rfl 92 rfl dX2_reasonAgainstGreen_90 ?_
              refine g_iload 7 rfl 94 rfl dX2_reasonAgainstGreen_92 ?_
              refine p_cVI j [.int ((p0 * 6) + a1.2), .int p2, .int p3, .int x8, .int x9, .int p4] [] (c_X2_clashWith l hO hX hj M ((p0 * 6) + a1.2) p2 p3 x8 x9 p4) dX2_reasonAgainstGreen_94 uv_X2_147 rfl yk_X2_clashWith ⟨by decide, by decide⟩ (lx_J hX hj).1 (lx_J hX hj).2 rfl (Nat.le_of_ble_eq_true rfl) rfl 97 rfl ?_
              intro x10
              refine g_istoreA [(10, .int x10), (9, .int x9), (8, .int x8), (0, .ref (wA Ω j)), (1, .int p0), (2, .int p1), (3, .int p2), (4, .int p3), (5, .int p4), (6, .int a1.1), (7, .int a1.2)] 99 rfl dX2_reasonAgainstGreen_97 (by decide) rfl ?_
              refine g_iload 9 rfl 101 rfl dX2_reasonAgainstGreen_99 ?_
              refine g_iload 0 rfl 103 rfl dX2_reasonAgainstGreen_101 ?_
              refine p_cSNI [.int a1.1, .int x10] [] (c_X9_earlierReason l hO M a1.1 x10) dX2_reasonAgainstGreen_103 wk_X2_151 ws_X9_earlierReason wn_X9 wc_X9_earlierReason yk_X9_earlierReason ⟨by decide, by decide⟩ (Nat.le_of_ble_eq_true rfl) rfl 106 rfl ?_
              intro x11
              refine g_istoreA [(6, .int x11), (10, .int x10), (9, .int x9), (8, .int x8), (0, .ref (wA Ω j)), (1, .int p0), (2, .int p1), (3, .int p2), (4, .int p3), (5, .int p4), (7, .int a1.2)] 108 rfl dX2_reasonAgainstGreen_106 (by decide) rfl ?_
              refine g_sub [(0, .ref (wA Ω j)), (1, .int p0), (2, .int p1), (3, .int p2), (4, .int p3), (5, .int p4), (6, .int x11), (7, .int a1.2)] [4, 5, 6, 7, 8, 9, 0, 10] rfl ?_
              exact hk5 x11
    · refine g_iconst 2 23 rfl dX2_reasonAgainstGreen_22 (by decide) ?_
      exact p_iret rfl dX2_reasonAgainstGreen_23
  · refine g_iconst 1 12 rfl dX2_reasonAgainstGreen_11 (by decide) ?_
    exact p_iret rfl dX2_reasonAgainstGreen_12
def fX2_reasonAgainstConflict_L1 (j : Nat) (p0 : Int32) (p1 : Int32) (p2 : Int32) (p3 : Int32) (p4 : Int32) (M : Mem) (k2 : Int32 → Option Int32) (a1 : Int32) : Option Int32 := if 2 ≤ a1 then (some 0) else (clp (fX2_hasGreen M j a1 p0) (fun x3 => jn (fun (a4 : Unit) => bnd (a1 + 1) (fun x6 => k2 x6)) (fun k5 => if x3 = 0 then (k5 ()) else (clp (fX2_hasGreen M j a1 p1) (fun x7 => if x7 = 0 then (k5 ()) else (clp (fX2_firstOf M j a1 p0) (fun x8 => clp (fX2_lengthOf M j a1 p0) (fun x9 => clp (fX2_clashWith M j ((a1 * 6) + p1) x8 x9 p2 p3 p4) (fun x10 => if x10 = 0 then (k5 ()) else (some x10))))))))))
def fX2_reasonAgainstConflict (M : Mem) (j : Nat) (p0 : Int32) (p1 : Int32) (p2 : Int32) (p3 : Int32) (p4 : Int32) : Option Int32 := lp (fX2_reasonAgainstConflict_L1 j p0 p1 p2 p3 p4 M) FU 0
set_option maxRecDepth 100000 in
set_option maxHeartbeats 4000000 in
theorem c_X2_reasonAgainstConflict {Ω : Wd} (l : Launch) (hO : OkW Ω) (hX : LX Ω) {j : Nat} (hj : isJ j) (M : Mem) (p0 : Int32) (p1 : Int32) (p2 : Int32) (p3 : Int32) (p4 : Int32) : ∀ r, fX2_reasonAgainstConflict M j p0 p1 p2 p3 p4 = some r → Ct l yX2_reasonAgainstConflict (.code yX2_reasonAgainstConflict cX2_reasonAgainstConflict 9 (some .int)) 3 75 Ω [.ref (wA Ω j), .int p0, .int p1, .int p2, .int p3, .int p4] M ((cpI M) r) := by
  refine ofG [(0, .ref (wA Ω j)), (1, .int p0), (2, .int p1), (3, .int p2), (4, .int p3), (5, .int p4)] hO (by decide) rfl (Nat.le_of_ble_eq_true rfl) rfl ?_
  intro p e s m args below meth c
  unfold fX2_reasonAgainstConflict
  refine g_iconst 0 1 rfl dX2_reasonAgainstConflict_0 (by decide) ?_
  refine g_istoreA [(6, .int 0), (0, .ref (wA Ω j)), (1, .int p0), (2, .int p1), (3, .int p2), (4, .int p3), (5, .int p4)] 3 rfl dX2_reasonAgainstConflict_1 (by decide) rfl ?_
  refine g_sub [(0, .ref (wA Ω j)), (1, .int p0), (2, .int p1), (3, .int p2), (4, .int p3), (5, .int p4), (6, .int 0)] [1, 2, 3, 4, 5, 6, 0] rfl ?_
  refine g_loop 3 (fun a1 => [(0, .ref (wA Ω j)), (1, .int p0), (2, .int p1), (3, .int p2), (4, .int p3), (5, .int p4), (6, .int a1)]) (fun _ => []) (fun a1 => M) ?_ FU 0
  intro k2 hk2 a1
  unfold fX2_reasonAgainstConflict_L1
  refine g_iload 6 rfl 5 rfl dX2_reasonAgainstConflict_3 ?_
  refine g_iconst 2 6 rfl dX2_reasonAgainstConflict_5 (by decide) ?_
  refine g_icmp_ge 79 (by decide) 9 rfl dX2_reasonAgainstConflict_6 ?_ ?_
  · refine g_iconst 0 80 rfl dX2_reasonAgainstConflict_79 (by decide) ?_
    exact p_iret rfl dX2_reasonAgainstConflict_80
  · refine g_aload_n 0 rfl rfl 10 rfl dX2_reasonAgainstConflict_9 ?_
    refine g_iload 6 rfl 12 rfl dX2_reasonAgainstConflict_10 ?_
    refine g_iload_n 1 rfl rfl 13 rfl dX2_reasonAgainstConflict_12 ?_
    refine p_cVI j [.int a1, .int p0] [] (c_X2_hasGreen l hO hX hj M a1 p0) dX2_reasonAgainstConflict_13 uv_X2_123 rfl yk_X2_hasGreen ⟨by decide, by decide⟩ (lx_J hX hj).1 (lx_J hX hj).2 rfl (Nat.le_of_ble_eq_true rfl) rfl 16 rfl ?_
    intro x3
    refine g_join 73 (fun a4 => [(0, .ref (wA Ω j)), (1, .int p0), (2, .int p1), (3, .int p2), (4, .int p3), (5, .int p4), (6, .int a1)]) (fun a4 => []) (fun a4 => M) ?_ ?_
    · intro a4
      refine g_iinc 6 rfl 1 (by decide) (fun x6 => [(6, .int x6), (0, .ref (wA Ω j)), (1, .int p0), (2, .int p1), (3, .int p2), (4, .int p3), (5, .int p4)]) 76 rfl dX2_reasonAgainstConflict_73 (by decide) (fun _ => rfl) ?_
      intro x6
      refine g_goto 3 (by decide) dX2_reasonAgainstConflict_76 ?_
      refine g_sub [(0, .ref (wA Ω j)), (1, .int p0), (2, .int p1), (3, .int p2), (4, .int p3), (5, .int p4), (6, .int x6)] [1, 2, 3, 4, 5, 6, 0] rfl ?_
      exact hk2 x6
    · intro k5 hk5
      refine g_if_eq 73 (by decide) 19 rfl dX2_reasonAgainstConflict_16 ?_ ?_
      · exact hk5 ()
      · refine g_aload_n 0 rfl rfl 20 rfl dX2_reasonAgainstConflict_19 ?_
        refine g_iload 6 rfl 22 rfl dX2_reasonAgainstConflict_20 ?_
        refine g_iload_n 2 rfl rfl 23 rfl dX2_reasonAgainstConflict_22 ?_
        refine p_cVI j [.int a1, .int p1] [] (c_X2_hasGreen l hO hX hj M a1 p1) dX2_reasonAgainstConflict_23 uv_X2_123 rfl yk_X2_hasGreen ⟨by decide, by decide⟩ (lx_J hX hj).1 (lx_J hX hj).2 rfl (Nat.le_of_ble_eq_true rfl) rfl 26 rfl ?_
        intro x7
        refine g_if_eq 73 (by decide) 29 rfl dX2_reasonAgainstConflict_26 ?_ ?_
        · exact hk5 ()
        · refine g_aload_n 0 rfl rfl 30 rfl dX2_reasonAgainstConflict_29 ?_
          refine g_iload 6 rfl 32 rfl dX2_reasonAgainstConflict_30 ?_
          refine g_iload_n 1 rfl rfl 33 rfl dX2_reasonAgainstConflict_32 ?_
          refine p_cVI j [.int a1, .int p0] [] (c_X2_firstOf l hO hX hj M a1 p0) dX2_reasonAgainstConflict_33 uv_X2_136 rfl yk_X2_firstOf ⟨by decide, by decide⟩ (lx_J hX hj).1 (lx_J hX hj).2 rfl (Nat.le_of_ble_eq_true rfl) rfl 36 rfl ?_
          intro x8
          refine g_istoreA [(7, .int x8), (0, .ref (wA Ω j)), (1, .int p0), (2, .int p1), (3, .int p2), (4, .int p3), (5, .int p4), (6, .int a1)] 38 rfl dX2_reasonAgainstConflict_36 (by decide) rfl ?_
          refine g_aload_n 1 rfl rfl 39 rfl dX2_reasonAgainstConflict_38 ?_
          refine g_iload 7 rfl 41 rfl dX2_reasonAgainstConflict_39 ?_
          refine g_bipush 6 43 rfl dX2_reasonAgainstConflict_41 (by decide) ?_
          refine g_imul 44 rfl dX2_reasonAgainstConflict_43 ?_
          refine g_iload_n 3 rfl rfl 45 rfl dX2_reasonAgainstConflict_44 ?_
          refine g_iadd 46 rfl dX2_reasonAgainstConflict_45 ?_
          refine g_iload 0 rfl 48 rfl dX2_reasonAgainstConflict_46 ?_
          refine g_aload_n 1 rfl rfl 49 rfl dX2_reasonAgainstConflict_48 ?_
          refine g_iload 7 rfl 51 rfl dX2_reasonAgainstConflict_49 ?_
          refine g_iload_n 2 rfl rfl 52 rfl dX2_reasonAgainstConflict_51 ?_
          refine p_cVI j [.int a1, .int p0] [.int x8, .int ((a1 * 6) + p1), .ref (wA Ω j)] (c_X2_lengthOf l hO hX hj M a1 p0) dX2_reasonAgainstConflict_52 uv_X2_87 rfl yk_X2_lengthOf ⟨by decide, by decide⟩ (lx_J hX hj).1 (lx_J hX hj).2 rfl (Nat.le_of_ble_eq_true rfl) rfl 55 rfl ?_
          intro x9
          refine g_iload_n 4 rfl rfl 56 rfl dX2_reasonAgainstConflict_55 ?_
          refine g_iload 5 rfl 58 rfl dX2_reasonAgainstConflict_56 ?_
          refine g_iload 6 rfl 60 rfl dX2_reasonAgainstConflict_58 ?_
          refine p_cVI j [.int ((a1 * 6) + p1), .int x8, .int x9, .int p2, .int p3, .int p4] [] (c_X2_clashWith l hO hX hj M ((a1 * 6) + p1) x8 x9 p2 p3 p4) dX2_reasonAgainstConflict_60 uv_X2_147 rfl yk_X2_clashWith ⟨by decide, by decide⟩ (lx_J hX hj).1 (lx_J hX hj).2 rfl (Nat.le_of_ble_eq_true rfl) rfl 63 rfl ?_
          intro x10
          refine g_istoreA [(8, .int x10), (7, .int x8), (0, .ref (wA Ω j)), (1, .int p0), (2, .int p1), (3, .int p2), (4, .int p3), (5, .int p4), (6, .int a1)] 65 rfl dX2_reasonAgainstConflict_63 (by decide) rfl ?_
          refine g_iload 0 rfl 67 rfl dX2_reasonAgainstConflict_65 ?_
          refine g_if_eq 73 (by decide) 70 rfl dX2_reasonAgainstConflict_67 ?_ ?_
          · refine g_sub [(0, .ref (wA Ω j)), (1, .int p0), (2, .int p1), (3, .int p2), (4, .int p3), (5, .int p4), (6, .int a1)] [2, 3, 4, 5, 6, 7, 8] rfl ?_
            exact hk5 ()
          · refine g_iload 0 rfl 72 rfl dX2_reasonAgainstConflict_70 ?_
            exact p_iret rfl dX2_reasonAgainstConflict_72
def fX2_letSecondPass_L1 (j : Nat) (p0 : Int32) (p1 : Int32) (x4 : Int32) (k6 : Mem → Option (Int32 × Mem)) (k8 : (Int32 × Mem) → Option (Int32 × Mem)) (a7 : Int32 × Mem) : Option (Int32 × Mem) := if a7.2 j 2 ≤ a7.1 then (k6 a7.2) else (clp (fX2_isOn a7.2 j (a7.2 j 3) a7.1 x4 p1) (fun x9 => jn (fun (a10 : Mem) => bnd (a7.1 + 1) (fun x12 => k8 (x12, a10))) (fun k11 => if x9 = 0 then (k11 a7.2) else (cl (fX2_showGreen a7.2 j a7.1 x4 p0) (fun u13 M14 => k11 M14)))))
def fX2_letSecondPass (M : Mem) (j : Nat) (p0 : Int32) (p1 : Int32) : Option (Int32 × Mem) := jn (fun (a1 : Mem) => bnd (a1 j 5) (fun x3 => clp (fX2_localSecond a1 j p0 p1) (fun x4 => jn (fun (a5 : Mem) => some ((a5 j 5) - x3, a5)) (fun k6 => lp (fX2_letSecondPass_L1 j p0 p1 x4 k6) FU (0, a1))))) (fun k2 => if M j 4 = p0 then (bnd (mset M j 3 (1 - (M j 3))) (fun M15 => bnd (mset M15 j 4 (-1)) (fun M16 => bnd (mset M16 j 8 0) (fun M17 => k2 M17)))) else (k2 M))
set_option maxRecDepth 100000 in
set_option maxHeartbeats 4000000 in
theorem c_X2_letSecondPass {Ω : Wd} (l : Launch) (hO : OkW Ω) (hX : LX Ω) {j : Nat} (hj : isJ j) (M : Mem) (p0 : Int32) (p1 : Int32) : ∀ r, fX2_letSecondPass M j p0 p1 = some r → Ct l yX2_letSecondPass (.code yX2_letSecondPass cX2_letSecondPass 6 (some .int)) 3 66 Ω [.ref (wA Ω j), .int p0, .int p1] M (cvI r) := by
  refine ofG [(0, .ref (wA Ω j)), (1, .int p0), (2, .int p1)] hO (by decide) rfl (Nat.le_of_ble_eq_true rfl) rfl ?_
  intro p e s m args below meth c
  unfold fX2_letSecondPass
  refine g_aload_n 0 rfl rfl 1 rfl dX2_letSecondPass_0 ?_
  refine w_get (lx_J hX hj) rfl in_X2 4 (by decide) wf_X2_9 rfl 4 rfl dX2_letSecondPass_1 ?_
  refine g_iload_n 1 rfl rfl 5 rfl dX2_letSecondPass_4 ?_
  refine g_join 28 (fun a1 => [(0, .ref (wA Ω j)), (1, .int p0), (2, .int p1)]) (fun a1 => []) (fun a1 => a1) ?_ ?_
  · intro a1
    refine g_aload_n 0 rfl rfl 29 rfl dX2_letSecondPass_28 ?_
    refine w_get (lx_J hX hj) rfl in_X2 5 (by decide) wf_X2_61 rfl 32 rfl dX2_letSecondPass_29 ?_
    refine g_istore_n (fun x3 => [(3, .int x3), (0, .ref (wA Ω j)), (1, .int p0), (2, .int p1)]) rfl 33 rfl dX2_letSecondPass_32 (by decide) (fun _ => rfl) ?_
    intro x3
    refine g_aload_n 1 rfl rfl 34 rfl dX2_letSecondPass_33 ?_
    refine g_iload_n 2 rfl rfl 35 rfl dX2_letSecondPass_34 ?_
    refine g_iload_n 3 rfl rfl 36 rfl dX2_letSecondPass_35 ?_
    refine p_cVI j [.int p0, .int p1] [] (c_X2_localSecond l hO hX hj a1 p0 p1) dX2_letSecondPass_36 uv_X2_158 rfl yk_X2_localSecond ⟨by decide, by decide⟩ (lx_J hX hj).1 (lx_J hX hj).2 rfl (Nat.le_of_ble_eq_true rfl) rfl 39 rfl ?_
    intro x4
    refine g_istoreA [(4, .int x4), (3, .int x3), (0, .ref (wA Ω j)), (1, .int p0), (2, .int p1)] 41 rfl dX2_letSecondPass_39 (by decide) rfl ?_
    refine g_iconst 0 42 rfl dX2_letSecondPass_41 (by decide) ?_
    refine g_istoreA [(5, .int 0), (4, .int x4), (3, .int x3), (0, .ref (wA Ω j)), (1, .int p0), (2, .int p1)] 44 rfl dX2_letSecondPass_42 (by decide) rfl ?_
    refine g_join 84 (fun a5 => [(0, .ref (wA Ω j)), (3, .int x3)]) (fun a5 => []) (fun a5 => a5) ?_ ?_
    · intro a5
      refine g_aload_n 0 rfl rfl 85 rfl dX2_letSecondPass_84 ?_
      refine w_get (lx_J hX hj) rfl in_X2 5 (by decide) wf_X2_61 rfl 88 rfl dX2_letSecondPass_85 ?_
      refine g_iload_n 1 rfl rfl 89 rfl dX2_letSecondPass_88 ?_
      refine g_isub 90 rfl dX2_letSecondPass_89 ?_
      exact g_iret rfl dX2_letSecondPass_90
    · intro k6 hk6
      refine g_sub [(0, .ref (wA Ω j)), (1, .int p0), (2, .int p1), (3, .int x3), (4, .int x4), (5, .int 0)] [3, 4, 5, 2, 1, 0] rfl ?_
      refine g_loop 44 (fun a7 => [(0, .ref (wA Ω j)), (1, .int p0), (2, .int p1), (3, .int x3), (4, .int x4), (5, .int a7.1)]) (fun _ => []) (fun a7 => a7.2) ?_ FU (0, a1)
      intro k8 hk8 a7
      unfold fX2_letSecondPass_L1
      refine g_iload 5 rfl 46 rfl dX2_letSecondPass_44 ?_
      refine g_aload_n 0 rfl rfl 47 rfl dX2_letSecondPass_46 ?_
      refine w_get (lx_J hX hj) rfl in_X2 2 (by decide) wf_X2_55 rfl 50 rfl dX2_letSecondPass_47 ?_
      refine g_icmp_ge 84 (by decide) 53 rfl dX2_letSecondPass_50 ?_ ?_
      · refine g_sub [(0, .ref (wA Ω j)), (3, .int x3)] [0, 3] rfl ?_
        exact hk6 a7.2
      · refine g_aload_n 0 rfl rfl 54 rfl dX2_letSecondPass_53 ?_
        refine g_aload_n 0 rfl rfl 55 rfl dX2_letSecondPass_54 ?_
        refine w_get (lx_J hX hj) rfl in_X2 3 (by decide) wf_X2_58 rfl 58 rfl dX2_letSecondPass_55 ?_
        refine g_iload 5 rfl 60 rfl dX2_letSecondPass_58 ?_
        refine g_iload 4 rfl 62 rfl dX2_letSecondPass_60 ?_
        refine g_iload_n 2 rfl rfl 63 rfl dX2_letSecondPass_62 ?_
        refine p_cVI j [.int (a7.2 j 3), .int a7.1, .int x4, .int p1] [] (c_X2_isOn l hO hX hj a7.2 (a7.2 j 3) a7.1 x4 p1) dX2_letSecondPass_63 uv_X2_139 rfl yk_X2_isOn ⟨by decide, by decide⟩ (lx_J hX hj).1 (lx_J hX hj).2 rfl (Nat.le_of_ble_eq_true rfl) rfl 66 rfl ?_
        intro x9
        refine g_join 78 (fun a10 => [(0, .ref (wA Ω j)), (1, .int p0), (2, .int p1), (3, .int x3), (4, .int x4), (5, .int a7.1)]) (fun a10 => []) (fun a10 => a10) ?_ ?_
        · intro a10
          refine g_iinc 5 rfl 1 (by decide) (fun x12 => [(5, .int x12), (0, .ref (wA Ω j)), (1, .int p0), (2, .int p1), (3, .int x3), (4, .int x4)]) 81 rfl dX2_letSecondPass_78 (by decide) (fun _ => rfl) ?_
          intro x12
          refine g_goto 44 (by decide) dX2_letSecondPass_81 ?_
          refine g_sub [(0, .ref (wA Ω j)), (1, .int p0), (2, .int p1), (3, .int x3), (4, .int x4), (5, .int x12)] [1, 2, 3, 4, 5, 0] rfl ?_
          exact hk8 (x12, a10)
        · intro k11 hk11
          refine g_if_eq 78 (by decide) 69 rfl dX2_letSecondPass_66 ?_ ?_
          · exact hk11 a7.2
          · refine g_aload_n 0 rfl rfl 70 rfl dX2_letSecondPass_69 ?_
            refine g_iload 5 rfl 72 rfl dX2_letSecondPass_70 ?_
            refine g_iload 4 rfl 74 rfl dX2_letSecondPass_72 ?_
            refine g_iload_n 1 rfl rfl 75 rfl dX2_letSecondPass_74 ?_
            refine g_cVV j [.int a7.1, .int x4, .int p0] [] (c_X2_showGreen l hO hX hj a7.2 a7.1 x4 p0) dX2_letSecondPass_75 uv_X2_161 rfl yk_X2_showGreen ⟨by decide, by decide⟩ (lx_J hX hj).1 (lx_J hX hj).2 rfl (Nat.le_of_ble_eq_true rfl) rfl 78 rfl ?_
            intro u13 M14
            exact hk11 M14
  · intro k2 hk2
    refine g_icmp_ne 28 (by decide) 8 rfl dX2_letSecondPass_5 ?_ ?_
    · refine g_aload_n 0 rfl rfl 9 rfl dX2_letSecondPass_8 ?_
      refine g_iconst 1 10 rfl dX2_letSecondPass_9 (by decide) ?_
      refine g_aload_n 0 rfl rfl 11 rfl dX2_letSecondPass_10 ?_
      refine w_get (lx_J hX hj) rfl in_X2 3 (by decide) wf_X2_58 rfl 14 rfl dX2_letSecondPass_11 ?_
      refine g_isub 15 rfl dX2_letSecondPass_14 ?_
      refine w_put (lx_J hX hj) rfl in_X2 3 (by decide) wf_X2_58 tyX2 tyX2_ok nmX2 rfl rfl rfl rfl 18 rfl dX2_letSecondPass_15 ?_
      intro M15
      refine g_aload_n 0 rfl rfl 19 rfl dX2_letSecondPass_18 ?_
      refine g_iconst (-1) 20 rfl dX2_letSecondPass_19 (by decide) ?_
      refine w_put (lx_J hX hj) rfl in_X2 4 (by decide) wf_X2_9 tyX2 tyX2_ok nmX2 rfl rfl rfl rfl 23 rfl dX2_letSecondPass_20 ?_
      intro M16
      refine g_aload_n 0 rfl rfl 24 rfl dX2_letSecondPass_23 ?_
      refine g_iconst 0 25 rfl dX2_letSecondPass_24 (by decide) ?_
      refine w_put (lx_J hX hj) rfl in_X2 8 (by decide) wf_X2_70 tyX2 tyX2_ok nmX2 rfl rfl rfl rfl 28 rfl dX2_letSecondPass_25 ?_
      intro M17
      exact hk2 M17
    · exact hk2 M
def fX2_breaksClearance (M : Mem) (j : Nat) (p0 : Int32) (p1 : Int32) (p2 : Int32) (p3 : Int32) : Option Int32 := bnd (1 - (M j 3)) (fun x1 => clp (fX2_hasGreen M j (M j 3) p0) (fun x2 => jn (fun (a3 : Unit) => some 0) (fun k4 => if x2 = 0 then (k4 ()) else (clp (fX2_hasGreen M j x1 p1) (fun x5 => if x5 = 0 then (k4 ()) else (clp (fX2_secondsOff M j p0 p2 p3) (fun x6 => clp (fX2_secondsUntilOn M j x1 p1 p2 p3) (fun x7 => bnd (x6 + x7) (fun x8 => clp (fX2_clearanceFrom M j p0 p1) (fun x9 => jn (fun (a10 : Int32) => grd (isb a10) (some a10)) (fun k11 => if x9 ≤ x8 then (k11 0) else (k11 1))))))))))))
set_option maxRecDepth 100000 in
set_option maxHeartbeats 4000000 in
theorem c_X2_breaksClearance {Ω : Wd} (l : Launch) (hO : OkW Ω) (hX : LX Ω) {j : Nat} (hj : isJ j) (M : Mem) (p0 : Int32) (p1 : Int32) (p2 : Int32) (p3 : Int32) : ∀ r, fX2_breaksClearance M j p0 p1 p2 p3 = some r → Ct l yX2_breaksClearance (.code yX2_breaksClearance cX2_breaksClearance 7 (some .boolean)) 2 47 Ω [.ref (wA Ω j), .int p0, .int p1, .int p2, .int p3] M ((cpI M) r) := by
  refine ofG [(0, .ref (wA Ω j)), (1, .int p0), (2, .int p1), (3, .int p2), (4, .int p3)] hO (by decide) rfl (Nat.le_of_ble_eq_true rfl) rfl ?_
  intro p e s m args below meth c
  unfold fX2_breaksClearance
  refine g_iconst 1 1 rfl dX2_breaksClearance_0 (by decide) ?_
  refine g_aload_n 0 rfl rfl 2 rfl dX2_breaksClearance_1 ?_
  refine w_get (lx_J hX hj) rfl in_X2 3 (by decide) wf_X2_58 rfl 5 rfl dX2_breaksClearance_2 ?_
  refine g_isub 6 rfl dX2_breaksClearance_5 ?_
  refine g_istore (fun x1 => [(5, .int x1), (0, .ref (wA Ω j)), (1, .int p0), (2, .int p1), (3, .int p2), (4, .int p3)]) 8 rfl dX2_breaksClearance_6 (by decide) (fun _ => rfl) ?_
  intro x1
  refine g_aload_n 1 rfl rfl 9 rfl dX2_breaksClearance_8 ?_
  refine g_aload_n 1 rfl rfl 10 rfl dX2_breaksClearance_9 ?_
  refine w_get (lx_J hX hj) rfl in_X2 3 (by decide) wf_X2_58 rfl 13 rfl dX2_breaksClearance_10 ?_
  refine g_iload_n 2 rfl rfl 14 rfl dX2_breaksClearance_13 ?_
  refine p_cVI j [.int (M j 3), .int p0] [] (c_X2_hasGreen l hO hX hj M (M j 3) p0) dX2_breaksClearance_14 uv_X2_123 rfl yk_X2_hasGreen ⟨by decide, by decide⟩ (lx_J hX hj).1 (lx_J hX hj).2 rfl (Nat.le_of_ble_eq_true rfl) rfl 17 rfl ?_
  intro x2
  refine g_join 30 (fun a3 => []) (fun a3 => []) (fun a3 => M) ?_ ?_
  · intro a3
    refine g_iconst 0 31 rfl dX2_breaksClearance_30 (by decide) ?_
    exact p_zret rfl rfl dX2_breaksClearance_31
  · intro k4 hk4
    refine g_if_eq 30 (by decide) 20 rfl dX2_breaksClearance_17 ?_ ?_
    · refine g_sub [] [] rfl ?_
      exact hk4 ()
    · refine g_aload_n 1 rfl rfl 21 rfl dX2_breaksClearance_20 ?_
      refine g_iload 0 rfl 23 rfl dX2_breaksClearance_21 ?_
      refine g_iload_n 3 rfl rfl 24 rfl dX2_breaksClearance_23 ?_
      refine p_cVI j [.int x1, .int p1] [] (c_X2_hasGreen l hO hX hj M x1 p1) dX2_breaksClearance_24 uv_X2_123 rfl yk_X2_hasGreen ⟨by decide, by decide⟩ (lx_J hX hj).1 (lx_J hX hj).2 rfl (Nat.le_of_ble_eq_true rfl) rfl 27 rfl ?_
      intro x5
      refine g_if_ne 32 (by decide) 30 rfl dX2_breaksClearance_27 ?_ ?_
      · refine g_sub [] [] rfl ?_
        exact hk4 ()
      · refine g_aload_n 1 rfl rfl 33 rfl dX2_breaksClearance_32 ?_
        refine g_iload_n 2 rfl rfl 34 rfl dX2_breaksClearance_33 ?_
        refine g_iload_n 4 rfl rfl 35 rfl dX2_breaksClearance_34 ?_
        refine g_iload 5 rfl 37 rfl dX2_breaksClearance_35 ?_
        refine p_cVI j [.int p0, .int p2, .int p3] [] (c_X2_secondsOff l hO hX hj M p0 p2 p3) dX2_breaksClearance_37 uv_X2_181 rfl yk_X2_secondsOff ⟨by decide, by decide⟩ (lx_J hX hj).1 (lx_J hX hj).2 rfl (Nat.le_of_ble_eq_true rfl) rfl 40 rfl ?_
        intro x6
        refine g_aload_n 1 rfl rfl 41 rfl dX2_breaksClearance_40 ?_
        refine g_iload 0 rfl 43 rfl dX2_breaksClearance_41 ?_
        refine g_iload_n 3 rfl rfl 44 rfl dX2_breaksClearance_43 ?_
        refine g_iload_n 4 rfl rfl 45 rfl dX2_breaksClearance_44 ?_
        refine g_iload 5 rfl 47 rfl dX2_breaksClearance_45 ?_
        refine p_cVI j [.int x1, .int p1, .int p2, .int p3] [.int x6] (c_X2_secondsUntilOn l hO hX hj M x1 p1 p2 p3) dX2_breaksClearance_47 uv_X2_184 rfl yk_X2_secondsUntilOn ⟨by decide, by decide⟩ (lx_J hX hj).1 (lx_J hX hj).2 rfl (Nat.le_of_ble_eq_true rfl) rfl 50 rfl ?_
        intro x7
        refine g_iadd 51 rfl dX2_breaksClearance_50 ?_
        refine g_istore (fun x8 => [(6, .int x8), (5, .int x1), (0, .ref (wA Ω j)), (1, .int p0), (2, .int p1), (3, .int p2), (4, .int p3)]) 53 rfl dX2_breaksClearance_51 (by decide) (fun _ => rfl) ?_
        intro x8
        refine g_iload 0 rfl 55 rfl dX2_breaksClearance_53 ?_
        refine g_aload_n 2 rfl rfl 56 rfl dX2_breaksClearance_55 ?_
        refine g_iload_n 3 rfl rfl 57 rfl dX2_breaksClearance_56 ?_
        refine g_iload_n 4 rfl rfl 58 rfl dX2_breaksClearance_57 ?_
        refine p_cVI j [.int p0, .int p1] [.int x8] (c_X2_clearanceFrom l hO hX hj M p0 p1) dX2_breaksClearance_58 uv_X2_83 rfl yk_X2_clearanceFrom ⟨by decide, by decide⟩ (lx_J hX hj).1 (lx_J hX hj).2 rfl (Nat.le_of_ble_eq_true rfl) rfl 61 rfl ?_
        intro x9
        refine g_join 69 (fun a10 => []) (fun a10 => [.int a10]) (fun a10 => M) ?_ ?_
        · intro a10
          exact p_bret rfl dX2_breaksClearance_69
        · intro k11 hk11
          refine g_icmp_ge 68 (by decide) 64 rfl dX2_breaksClearance_61 ?_ ?_
          · refine g_iconst 0 69 rfl dX2_breaksClearance_68 (by decide) ?_
            refine g_sub [] [] rfl ?_
            exact hk11 0
          · refine g_iconst 1 65 rfl dX2_breaksClearance_64 (by decide) ?_
            refine g_goto 69 (by decide) dX2_breaksClearance_65 ?_
            refine g_sub [] [] rfl ?_
            exact hk11 1
def fX2_isChangeClear_L1 (j : Nat) (p0 : Int32) (p1 : Int32) (M : Mem) (a1 : Int32) (k4 : Unit → Option Int32) (k7 : Int32 → Option Int32) (a6 : Int32) : Option Int32 := if M j 2 ≤ a6 then (k4 ()) else (clp (fX2_areInConflict M j a1 a6) (fun x8 => jn (fun (a9 : Unit) => bnd (a6 + 1) (fun x11 => k7 x11)) (fun k10 => if x8 = 0 then (k10 ()) else (clp (fX2_breaksClearance M j a1 a6 p0 p1) (fun x12 => if x12 = 0 then (k10 ()) else (some 0))))))
def fX2_isChangeClear_L2 (j : Nat) (p0 : Int32) (p1 : Int32) (M : Mem) (k2 : Int32 → Option Int32) (a1 : Int32) : Option Int32 := if M j 2 ≤ a1 then (some 1) else (jn (fun (a3 : Unit) => bnd (a1 + 1) (fun x5 => k2 x5)) (fun k4 => lp (fX2_isChangeClear_L1 j p0 p1 M a1 k4) FU 0))
def fX2_isChangeClear (M : Mem) (j : Nat) (p0 : Int32) (p1 : Int32) : Option Int32 := lp (fX2_isChangeClear_L2 j p0 p1 M) FU 0
set_option maxRecDepth 100000 in
set_option maxHeartbeats 4000000 in
theorem c_X2_isChangeClear {Ω : Wd} (l : Launch) (hO : OkW Ω) (hX : LX Ω) {j : Nat} (hj : isJ j) (M : Mem) (p0 : Int32) (p1 : Int32) : ∀ r, fX2_isChangeClear M j p0 p1 = some r → Ct l yX2_isChangeClear (.code yX2_isChangeClear cX2_isChangeClear 5 (some .boolean)) 3 73 Ω [.ref (wA Ω j), .int p0, .int p1] M ((cpI M) r) := by
  refine ofG [(0, .ref (wA Ω j)), (1, .int p0), (2, .int p1)] hO (by decide) rfl (Nat.le_of_ble_eq_true rfl) rfl ?_
  intro p e s m args below meth c
  unfold fX2_isChangeClear
  refine g_iconst 0 1 rfl dX2_isChangeClear_0 (by decide) ?_
  refine g_istore_nA [(3, .int 0), (0, .ref (wA Ω j)), (1, .int p0), (2, .int p1)] rfl 2 rfl dX2_isChangeClear_1 (by decide) rfl ?_
  refine g_sub [(0, .ref (wA Ω j)), (1, .int p0), (2, .int p1), (3, .int 0)] [1, 2, 3, 0] rfl ?_
  refine g_loop 2 (fun a1 => [(0, .ref (wA Ω j)), (1, .int p0), (2, .int p1), (3, .int a1)]) (fun _ => []) (fun a1 => M) ?_ FU 0
  intro k2 hk2 a1
  unfold fX2_isChangeClear_L2
  refine g_iload_n 3 rfl rfl 3 rfl dX2_isChangeClear_2 ?_
  refine g_aload_n 0 rfl rfl 4 rfl dX2_isChangeClear_3 ?_
  refine w_get (lx_J hX hj) rfl in_X2 2 (by decide) wf_X2_55 rfl 7 rfl dX2_isChangeClear_4 ?_
  refine g_icmp_ge 58 (by decide) 10 rfl dX2_isChangeClear_7 ?_ ?_
  · refine g_iconst 1 59 rfl dX2_isChangeClear_58 (by decide) ?_
    exact p_zret rfl rfl dX2_isChangeClear_59
  · refine g_iconst 0 11 rfl dX2_isChangeClear_10 (by decide) ?_
    refine g_istoreA [(4, .int 0), (0, .ref (wA Ω j)), (1, .int p0), (2, .int p1), (3, .int a1)] 13 rfl dX2_isChangeClear_11 (by decide) rfl ?_
    refine g_join 52 (fun a3 => [(0, .ref (wA Ω j)), (1, .int p0), (2, .int p1), (3, .int a1)]) (fun a3 => []) (fun a3 => M) ?_ ?_
    · intro a3
      refine g_iinc 3 rfl 1 (by decide) (fun x5 => [(3, .int x5), (0, .ref (wA Ω j)), (1, .int p0), (2, .int p1)]) 55 rfl dX2_isChangeClear_52 (by decide) (fun _ => rfl) ?_
      intro x5
      refine g_goto 2 (by decide) dX2_isChangeClear_55 ?_
      refine g_sub [(0, .ref (wA Ω j)), (1, .int p0), (2, .int p1), (3, .int x5)] [1, 2, 3, 0] rfl ?_
      exact hk2 x5
    · intro k4 hk4
      refine g_sub [(0, .ref (wA Ω j)), (1, .int p0), (2, .int p1), (3, .int a1), (4, .int 0)] [1, 2, 3, 4, 0] rfl ?_
      refine g_loop 13 (fun a6 => [(0, .ref (wA Ω j)), (1, .int p0), (2, .int p1), (3, .int a1), (4, .int a6)]) (fun _ => []) (fun a6 => M) ?_ FU 0
      intro k7 hk7 a6
      unfold fX2_isChangeClear_L1
      refine g_iload 4 rfl 15 rfl dX2_isChangeClear_13 ?_
      refine g_aload_n 0 rfl rfl 16 rfl dX2_isChangeClear_15 ?_
      refine w_get (lx_J hX hj) rfl in_X2 2 (by decide) wf_X2_55 rfl 19 rfl dX2_isChangeClear_16 ?_
      refine g_icmp_ge 52 (by decide) 22 rfl dX2_isChangeClear_19 ?_ ?_
      · refine g_sub [(0, .ref (wA Ω j)), (1, .int p0), (2, .int p1), (3, .int a1)] [0, 1, 2, 3] rfl ?_
        exact hk4 ()
      · refine g_aload_n 0 rfl rfl 23 rfl dX2_isChangeClear_22 ?_
        refine g_iload_n 3 rfl rfl 24 rfl dX2_isChangeClear_23 ?_
        refine g_iload 4 rfl 26 rfl dX2_isChangeClear_24 ?_
        refine p_cVI j [.int a1, .int a6] [] (c_X2_areInConflict l hO hX hj M a1 a6) dX2_isChangeClear_26 uv_X2_111 rfl yk_X2_areInConflict ⟨by decide, by decide⟩ (lx_J hX hj).1 (lx_J hX hj).2 rfl (Nat.le_of_ble_eq_true rfl) rfl 29 rfl ?_
        intro x8
        refine g_join 46 (fun a9 => [(0, .ref (wA Ω j)), (1, .int p0), (2, .int p1), (3, .int a1), (4, .int a6)]) (fun a9 => []) (fun a9 => M) ?_ ?_
        · intro a9
          refine g_iinc 4 rfl 1 (by decide) (fun x11 => [(4, .int x11), (0, .ref (wA Ω j)), (1, .int p0), (2, .int p1), (3, .int a1)]) 49 rfl dX2_isChangeClear_46 (by decide) (fun _ => rfl) ?_
          intro x11
          refine g_goto 13 (by decide) dX2_isChangeClear_49 ?_
          refine g_sub [(0, .ref (wA Ω j)), (1, .int p0), (2, .int p1), (3, .int a1), (4, .int x11)] [1, 2, 3, 4, 0] rfl ?_
          exact hk7 x11
        · intro k10 hk10
          refine g_if_eq 46 (by decide) 32 rfl dX2_isChangeClear_29 ?_ ?_
          · exact hk10 ()
          · refine g_aload_n 0 rfl rfl 33 rfl dX2_isChangeClear_32 ?_
            refine g_iload_n 3 rfl rfl 34 rfl dX2_isChangeClear_33 ?_
            refine g_iload 4 rfl 36 rfl dX2_isChangeClear_34 ?_
            refine g_iload_n 1 rfl rfl 37 rfl dX2_isChangeClear_36 ?_
            refine g_iload_n 2 rfl rfl 38 rfl dX2_isChangeClear_37 ?_
            refine p_cVI j [.int a1, .int a6, .int p0, .int p1] [] (c_X2_breaksClearance l hO hX hj M a1 a6 p0 p1) dX2_isChangeClear_38 uv_X2_178 rfl yk_X2_breaksClearance ⟨by decide, by decide⟩ (lx_J hX hj).1 (lx_J hX hj).2 rfl (Nat.le_of_ble_eq_true rfl) rfl 41 rfl ?_
            intro x12
            refine g_if_eq 46 (by decide) 44 rfl dX2_isChangeClear_41 ?_ ?_
            · exact hk10 ()
            · refine g_iconst 0 45 rfl dX2_isChangeClear_44 (by decide) ?_
              exact p_zret rfl rfl dX2_isChangeClear_45
def fX2_secondsToChange_L1 (j : Nat) (p1 : Int32) (M : Mem) (x1 : Int32) (k3 : Int32 → Option Int32) (a2 : Int32) : Option Int32 := if p1 ≤ a2 then (some (-1)) else (clp (fX9_wrap M (x1 + a2) p1) (fun x4 => clp (fX2_isChangeClear M j x4 p1) (fun x5 => if x5 = 0 then (bnd (a2 + 1) (fun x6 => k3 x6)) else (some a2))))
def fX2_secondsToChange (M : Mem) (j : Nat) (p0 : Int32) (p1 : Int32) : Option Int32 := clp (fX2_localSecond M j p0 p1) (fun x1 => lp (fX2_secondsToChange_L1 j p1 M x1) FU 0)
set_option maxRecDepth 100000 in
set_option maxHeartbeats 4000000 in
theorem c_X2_secondsToChange {Ω : Wd} (l : Launch) (hO : OkW Ω) (hX : LX Ω) {j : Nat} (hj : isJ j) (M : Mem) (p0 : Int32) (p1 : Int32) : ∀ r, fX2_secondsToChange M j p0 p1 = some r → Ct l yX2_secondsToChange (.code yX2_secondsToChange cX2_secondsToChange 5 (some .int)) 4 97 Ω [.ref (wA Ω j), .int p0, .int p1] M ((cpI M) r) := by
  refine ofG [(0, .ref (wA Ω j)), (1, .int p0), (2, .int p1)] hO (by decide) rfl (Nat.le_of_ble_eq_true rfl) rfl ?_
  intro p e s m args below meth c
  unfold fX2_secondsToChange
  refine g_aload_n 0 rfl rfl 1 rfl dX2_secondsToChange_0 ?_
  refine g_iload_n 1 rfl rfl 2 rfl dX2_secondsToChange_1 ?_
  refine g_iload_n 2 rfl rfl 3 rfl dX2_secondsToChange_2 ?_
  refine p_cVI j [.int p0, .int p1] [] (c_X2_localSecond l hO hX hj M p0 p1) dX2_secondsToChange_3 uv_X2_158 rfl yk_X2_localSecond ⟨by decide, by decide⟩ (lx_J hX hj).1 (lx_J hX hj).2 rfl (Nat.le_of_ble_eq_true rfl) rfl 6 rfl ?_
  intro x1
  refine g_istore_nA [(3, .int x1), (0, .ref (wA Ω j)), (1, .int p0), (2, .int p1)] rfl 7 rfl dX2_secondsToChange_6 (by decide) rfl ?_
  refine g_iconst 0 8 rfl dX2_secondsToChange_7 (by decide) ?_
  refine g_istoreA [(4, .int 0), (3, .int x1), (0, .ref (wA Ω j)), (1, .int p0), (2, .int p1)] 10 rfl dX2_secondsToChange_8 (by decide) rfl ?_
  refine g_sub [(0, .ref (wA Ω j)), (2, .int p1), (3, .int x1), (4, .int 0)] [2, 4, 1, 0] rfl ?_
  refine g_loop 10 (fun a2 => [(0, .ref (wA Ω j)), (2, .int p1), (3, .int x1), (4, .int a2)]) (fun _ => []) (fun a2 => M) ?_ FU 0
  intro k3 hk3 a2
  unfold fX2_secondsToChange_L1
  refine g_iload 3 rfl 12 rfl dX2_secondsToChange_10 ?_
  refine g_iload_n 1 rfl rfl 13 rfl dX2_secondsToChange_12 ?_
  refine g_icmp_ge 41 (by decide) 16 rfl dX2_secondsToChange_13 ?_ ?_
  · refine g_iconst (-1) 42 rfl dX2_secondsToChange_41 (by decide) ?_
    exact p_iret rfl dX2_secondsToChange_42
  · refine g_aload_n 0 rfl rfl 17 rfl dX2_secondsToChange_16 ?_
    refine g_iload_n 2 rfl rfl 18 rfl dX2_secondsToChange_17 ?_
    refine g_iload 3 rfl 20 rfl dX2_secondsToChange_18 ?_
    refine g_iadd 21 rfl dX2_secondsToChange_20 ?_
    refine g_iload_n 1 rfl rfl 22 rfl dX2_secondsToChange_21 ?_
    refine p_cSNI [.int (x1 + a2), .int p1] [.ref (wA Ω j)] (c_X9_wrap l hO M (x1 + a2) p1) dX2_secondsToChange_22 wk_X2_133 ws_X9_wrap wn_X9 wc_X9_wrap yk_X9_wrap ⟨by decide, by decide⟩ (Nat.le_of_ble_eq_true rfl) rfl 25 rfl ?_
    intro x4
    refine g_iload_n 1 rfl rfl 26 rfl dX2_secondsToChange_25 ?_
    refine p_cVI j [.int x4, .int p1] [] (c_X2_isChangeClear l hO hX hj M x4 p1) dX2_secondsToChange_26 uv_X2_175 rfl yk_X2_isChangeClear ⟨by decide, by decide⟩ (lx_J hX hj).1 (lx_J hX hj).2 rfl (Nat.le_of_ble_eq_true rfl) rfl 29 rfl ?_
    intro x5
    refine g_if_eq 35 (by decide) 32 rfl dX2_secondsToChange_29 ?_ ?_
    · refine g_iinc 3 rfl 1 (by decide) (fun x6 => [(4, .int x6), (0, .ref (wA Ω j)), (2, .int p1), (3, .int x1)]) 38 rfl dX2_secondsToChange_35 (by decide) (fun _ => rfl) ?_
      intro x6
      refine g_goto 10 (by decide) dX2_secondsToChange_38 ?_
      refine g_sub [(0, .ref (wA Ω j)), (2, .int p1), (3, .int x1), (4, .int x6)] [1, 2, 3, 0] rfl ?_
      exact hk3 x6
    · refine g_iload 3 rfl 34 rfl dX2_secondsToChange_32 ?_
      exact p_iret rfl dX2_secondsToChange_34
