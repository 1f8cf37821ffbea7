/-! the law's loop -/
theorem ld_cmp {i n : Nat} (hi : i ≤ 3078) (hn : n ≤ 3072) : (nI n - 6 < nI i) ↔ n < i + 6 := by
  rw [ti_lt, ti_sub (by rw [nI_toInt (by omega)]; show (-2147483648 : Int) ≤ _ - 6; omega) (by rw [nI_toInt (by omega)]; show _ - (6 : Int) < _; omega), nI_toInt (by omega), nI_toInt (by omega)]
  show (n : Int) - 6 < _ ↔ _
  omega
theorem ld_and (x : Int32) : ∃ n : Nat, n < 64 ∧ (x &&& 63).toInt = (n : Int) := by
  have h0 : (x.toUInt32 &&& 63).toNat < 64 := by
    rw [UInt32.toNat_and]
    exact Nat.lt_of_le_of_lt Nat.and_le_right (by decide)
  refine ⟨(x.toUInt32 &&& 63).toNat, h0, ?_⟩
  have e : x &&& 63 = nI (x.toUInt32 &&& 63).toNat := by
    apply Int32.toBitVec_inj.mp
    simp [nI]
  rw [e, nI_toInt (by omega)]
section LLP
variable {p : Program} {l : Launch} {e : Env} {s : State} {m : MethodId} {below : List Frame} {meth : Method} {c : Code} {b Ls : Nat} {xs : Nat → Int32} {D : va_G} {cy : Nat → ClassId} {E ax am Ks V : Nat → Nat} {out outD t0 t1 : Nat} {Mx Mm Mx' Mm' : Mem} {xo xd : va_E} {H : Heap} {locs : List Loc} {cells slots pc i : Nat} {ls : Array Slot} {L : List (Nat × Value)} {st stk : List Value} {Q : State → Prop} {f : Nat → Int64} {g : Nat → UInt64}
theorem law_loop (K : KT p s m b Ls xs c D cy E ax am out outD) (Y : HY l D cy E ax am s Ks V t0 t1) (hL : Ls ≤ 3072) (cF : (∀ {H : Heap} {locs : List Loc} {ls : Array Slot} {Mx Mm : Mem} {f : Nat → Int64} {g : Nat → UInt64} {i cells slots : Nat} (hi : i + 6 ≤ Ls) (N : Next p l e s m b below meth c D cy E ax am out outD Q (cells + 1) (slots + 6) (i + 6)) (hc : cells + 1 ≤ 603072) (hs : slots + 6 ≤ 7211114) (I : Inv Mx Mm) (hH : LH D cy E ax am s out outD Mx Mm (lc (cy 5) f) (dc (cy 6) g) H) (hS : va_S (A0 s) s.heap H locs) (hl : lv_has ls 9 (L0 ax am b out outD i)), W p l e room_1 s m #[Value.ref b] below meth c H locs cells slots Q (F0 m 2068 ls []))) (cG : (∀ {H : Heap} {locs : List Loc} {ls : Array Slot} {Mx Mm : Mem} {f : Nat → Int64} {g : Nat → UInt64} {i cells slots : Nat} (hi : i + 6 ≤ Ls) (N : Next p l e s m b below meth c D cy E ax am out outD Q (cells + 1) (slots + 6) (i + 6)) (hc : cells + 1 ≤ 603072) (hs : slots + 6 ≤ 7211114) (I : Inv Mx Mm) (hH : LH D cy E ax am s out outD Mx Mm (lc (cy 5) f) (dc (cy 6) g) H) (hS : va_S (A0 s) s.heap H locs) (hl : lv_has ls 9 (L0 ax am b out outD i)), W p l e room_1 s m #[Value.ref b] below meth c H locs cells slots Q (F0 m 2598 ls []))) (hend : ∀ (H : Heap) (locs : List Loc) (ls : Array Slot) (cells slots : Nat), cells ≤ 1024 → slots ≤ 16384 → va_S (A0 s) s.heap H locs → W p l e room_1 s m #[Value.ref b] below meth c H locs cells slots Q (F0 m 2995 ls [])) : ∀ (r i cells slots : Nat), i ≤ 3078 → Ls < i + 6 * r + 6 → cells + r ≤ 1024 → slots + 6 * r ≤ 16384 → Next p l e s m b below meth c D cy E ax am out outD Q cells slots i := by
  intro r
  induction r with
  | zero =>
    intro i cells slots h1 h2 h3 h4 H locs ls Mx Mm f g I hH hS hl
    refine lv_iload K.1 K.2.1 dL_law_28 (lv_at hl 0 rfl) ?_
    refine lv_aload_n K.1 K.2.1 dL_law_30 rfl (lv_at hl 5 rfl) ?_
    refine va_slen (A := A0 s) K.1 K.2.1 K.2.2.2.2.2.2.2.1 K.2.2.2.2.2.2.2.2.1 (Nat.not_le.mpr K.2.2.2.2.2.2.2.2.1) hS dL_law_31 ?_
    refine lv_bipush (v := 6) K.1 K.2.1 dL_law_32 (by decide) ?_
    refine lv_isub K.1 K.2.1 dL_law_34 ?_
    exact lv_icmp_gt (tgt := 2995) K.1 K.2.1 dL_law_35 (by decide) (fun _ => hend H locs ls cells slots (by omega) (by omega) hS) (fun h => absurd ((ld_cmp h1 hL).mpr (by omega)) h)
  | succ r ih =>
    intro i cells slots h1 h2 h3 h4 H locs ls Mx Mm f g I hH hS hl
    refine lv_iload K.1 K.2.1 dL_law_28 (lv_at hl 0 rfl) ?_
    refine lv_aload_n K.1 K.2.1 dL_law_30 rfl (lv_at hl 5 rfl) ?_
    refine va_slen (A := A0 s) K.1 K.2.1 K.2.2.2.2.2.2.2.1 K.2.2.2.2.2.2.2.2.1 (Nat.not_le.mpr K.2.2.2.2.2.2.2.2.1) hS dL_law_31 ?_
    refine lv_bipush (v := 6) K.1 K.2.1 dL_law_32 (by decide) ?_
    refine lv_isub K.1 K.2.1 dL_law_34 ?_
    refine lv_icmp_gt (tgt := 2995) K.1 K.2.1 dL_law_35 (by decide) (fun _ => hend H locs ls cells slots (by omega) (by omega) hS) (fun h => ?_)
    have hi : i + 6 ≤ Ls := by
      rcases Nat.lt_or_ge Ls (i + 6) with q | q
      · exact absurd ((ld_cmp h1 hL).mpr q) h
      · exact q
    have N : Next p l e s m b below meth c D cy E ax am out outD Q (cells + 1) (slots + 6) (i + 6) := ih (i + 6) (cells + 1) (slots + 6) (by omega) (by omega) (by omega) (by omega)
    have hc : cells + 1 ≤ 603072 := by omega
    have hs : slots + 6 ≤ 7211114 := by omega
    refine lv_aload_n K.1 K.2.1 dL_law_38 rfl (lv_at hl 5 rfl) ?_
    refine lv_iload K.1 K.2.1 dL_law_39 (lv_at hl 0 rfl) ?_
    refine va_sld (A := A0 s) K.1 K.2.1 K.2.2.2.2.2.2.2.1 K.2.2.2.2.2.2.2.2.1 (Nat.not_le.mpr K.2.2.2.2.2.2.2.2.1) hS (vp_in_nI (by omega) (by omega)) dL_law_41 ?_
    refine lv_bipush (v := 63) K.1 K.2.1 dL_law_42 (by decide) ?_
    refine lv_iand K.1 K.2.1 dL_law_44 ?_
    obtain ⟨n, hn, hx⟩ := ld_and (xs (nI i).toNatClampNeg)
    generalize (xs (nI i).toNatClampNeg &&& 63) = x at hx ⊢
    match n, hn, hx with
    | 0, _, hx => exact lv_tableIn (tgt := 224) (off := 179) K.1 K.2.1 dL_law_45 (by rw [hx]; decide) (by rw [hx]; decide) (by rw [hx]; rfl) (by decide) (cs_cycle K Y hi hL N hc hs I hH hS hl)
    | 1, _, hx => exact lv_tableIn (tgt := 280) (off := 235) K.1 K.2.1 dL_law_45 (by rw [hx]; decide) (by rw [hx]; decide) (by rw [hx]; rfl) (by decide) (cs_speed K Y hi hL N hc hs I hH hS hl)
    | 2, _, hx => exact lv_tableIn (tgt := 336) (off := 291) K.1 K.2.1 dL_law_45 (by rw [hx]; decide) (by rw [hx]; decide) (by rw [hx]; rfl) (by decide) (cs_junction K Y hi hL N hc hs I hH hS hl)
    | 3, _, hx => exact lv_tableIn (tgt := 392) (off := 347) K.1 K.2.1 dL_law_45 (by rw [hx]; decide) (by rw [hx]; decide) (by rw [hx]; rfl) (by decide) (cs_offset K Y hi hL N hc hs I hH hS hl)
    | 4, _, hx => exact lv_tableIn (tgt := 460) (off := 415) K.1 K.2.1 dL_law_45 (by rw [hx]; decide) (by rw [hx]; decide) (by rw [hx]; rfl) (by decide) (cs_road K Y hi hL N hc hs I hH hS hl)
    | 5, _, hx => exact lv_tableIn (tgt := 540) (off := 495) K.1 K.2.1 dL_law_45 (by rw [hx]; decide) (by rw [hx]; decide) (by rw [hx]; rfl) (by decide) (cs_told K Y hi hL N hc hs I hH hS hl)
    | 6, _, hx => exact lv_tableIn (tgt := 608) (off := 563) K.1 K.2.1 dL_law_45 (by rw [hx]; decide) (by rw [hx]; decide) (by rw [hx]; rfl) (by decide) (cs_group K Y hi hL N hc hs I hH hS hl)
    | 7, _, hx => exact lv_tableIn (tgt := 716) (off := 671) K.1 K.2.1 dL_law_45 (by rw [hx]; decide) (by rw [hx]; decide) (by rw [hx]; rfl) (by decide) (cs_groupTold K Y hi hL N hc hs I hH hS hl)
    | 8, _, hx => exact lv_tableIn (tgt := 796) (off := 751) K.1 K.2.1 dL_law_45 (by rw [hx]; decide) (by rw [hx]; decide) (by rw [hx]; rfl) (by decide) (cs_conflict K Y hi hL N hc hs I hH hS hl)
    | 9, _, hx => exact lv_tableIn (tgt := 900) (off := 855) K.1 K.2.1 dL_law_45 (by rw [hx]; decide) (by rw [hx]; decide) (by rw [hx]; rfl) (by decide) (cs_peace K Y hi hL N hc hs I hH hS hl)
    | 10, _, hx => exact lv_tableIn (tgt := 980) (off := 935) K.1 K.2.1 dL_law_45 (by rw [hx]; decide) (by rw [hx]; decide) (by rw [hx]; rfl) (by decide) (cs_clearance K Y hi hL N hc hs I hH hS hl)
    | 11, _, hx => exact lv_tableIn (tgt := 1060) (off := 1015) K.1 K.2.1 dL_law_45 (by rw [hx]; decide) (by rw [hx]; decide) (by rw [hx]; rfl) (by decide) (cs_green K Y hi hL N hc hs I hH hS hl)
    | 12, _, hx => exact lv_tableIn (tgt := 1164) (off := 1119) K.1 K.2.1 dL_law_45 (by rw [hx]; decide) (by rw [hx]; decide) (by rw [hx]; rfl) (by decide) (cs_hinders K Y hi hL N hc hs I hH hS hl)
    | 13, _, hx => exact lv_tableIn (tgt := 1268) (off := 1223) K.1 K.2.1 dL_law_45 (by rw [hx]; decide) (by rw [hx]; decide) (by rw [hx]; rfl) (by decide) (cs_dark K Y hi hL N hc hs I hH hS hl)
    | 14, _, hx => exact lv_tableIn (tgt := 1348) (off := 1303) K.1 K.2.1 dL_law_45 (by rw [hx]; decide) (by rw [hx]; decide) (by rw [hx]; rfl) (by decide) (cs_make K Y hi hL N hc hs I hH hS hl)
    | 15, _, hx => exact lv_tableIn (tgt := 1416) (off := 1371) K.1 K.2.1 dL_law_45 (by rw [hx]; decide) (by rw [hx]; decide) (by rw [hx]; rfl) (by decide) (cs_phase K Y hi hL N hc hs I hH hS hl)
    | 16, _, hx => exact lv_tableIn (tgt := 1484) (off := 1439) K.1 K.2.1 dL_law_45 (by rw [hx]; decide) (by rw [hx]; decide) (by rw [hx]; rfl) (by decide) (cs_greenOf K Y hi hL N hc hs I hH hS hl)
    | 17, _, hx => exact lv_tableIn (tgt := 1592) (off := 1547) K.1 K.2.1 dL_law_45 (by rw [hx]; decide) (by rw [hx]; decide) (by rw [hx]; rfl) (by decide) (cs_shows K Y hi hL N hc hs I hH hS hl)
    | 18, _, hx => exact lv_tableIn (tgt := 1672) (off := 1627) K.1 K.2.1 dL_law_45 (by rw [hx]; decide) (by rw [hx]; decide) (by rw [hx]; rfl) (by decide) (cs_picture K Y hi hL N hc hs I hH hS hl)
    | 19, _, hx => exact lv_tableIn (tgt := 1752) (off := 1707) K.1 K.2.1 dL_law_45 (by rw [hx]; decide) (by rw [hx]; decide) (by rw [hx]; rfl) (by decide) (cs_refusal K Y hi hL N hc hs I hH hS hl)
    | 20, _, hx => exact lv_tableIn (tgt := 1796) (off := 1751) K.1 K.2.1 dL_law_45 (by rw [hx]; decide) (by rw [hx]; decide) (by rw [hx]; rfl) (by decide) (cs_trip K Y hi hL N hc hs I hH hS hl)
    | 21, _, hx => exact lv_tableIn (tgt := 1876) (off := 1831) K.1 K.2.1 dL_law_45 (by rw [hx]; decide) (by rw [hx]; decide) (by rw [hx]; rfl) (by decide) (cs_tripAgain K Y hi hL N hc hs I hH hS hl)
    | 22, _, hx => exact lv_tableIn (tgt := 1944) (off := 1899) K.1 K.2.1 dL_law_45 (by rw [hx]; decide) (by rw [hx]; decide) (by rw [hx]; rfl) (by decide) (cs_band K Y hi hL N hc hs I hH hS hl)
    | 23, _, hx => exact lv_tableIn (tgt := 2000) (off := 1955) K.1 K.2.1 dL_law_45 (by rw [hx]; decide) (by rw [hx]; decide) (by rw [hx]; rfl) (by decide) (cs_bestOffset K Y hi hL N hc hs I hH hS hl)
    | 24, _, hx => exact lv_tableIn (tgt := 2068) (off := 2023) K.1 K.2.1 dL_law_45 (by rw [hx]; decide) (by rw [hx]; decide) (by rw [hx]; rfl) (by decide) (cF hi N hc hs I hH hS hl)
    | 25, _, hx => exact lv_tableIn (tgt := 2146) (off := 2101) K.1 K.2.1 dL_law_45 (by rw [hx]; decide) (by rw [hx]; decide) (by rw [hx]; rfl) (by decide) (cs_press K Y hi hL N hc hs I hH hS hl)
    | 26, _, hx => exact lv_tableIn (tgt := 2214) (off := 2169) K.1 K.2.1 dL_law_45 (by rw [hx]; decide) (by rw [hx]; decide) (by rw [hx]; rfl) (by decide) (cs_run K Y hi hL N hc hs I hH hS hl)
    | 27, _, hx => exact lv_tableIn (tgt := 2270) (off := 2225) K.1 K.2.1 dL_law_45 (by rw [hx]; decide) (by rw [hx]; decide) (by rw [hx]; rfl) (by decide) (cs_soonest K Y hi hL N hc hs I hH hS hl)
    | 28, _, hx => exact lv_tableIn (tgt := 2326) (off := 2281) K.1 K.2.1 dL_law_45 (by rw [hx]; decide) (by rw [hx]; decide) (by rw [hx]; rfl) (by decide) (cs_change K Y hi hL N hc hs I hH hS hl)
    | 29, _, hx => exact lv_tableIn (tgt := 2382) (off := 2337) K.1 K.2.1 dL_law_45 (by rw [hx]; decide) (by rw [hx]; decide) (by rw [hx]; rfl) (by decide) (cs_mount K Y hi hL N hc hs I hH hS hl)
    | 30, _, hx => exact lv_tableIn (tgt := 2474) (off := 2429) K.1 K.2.1 dL_law_45 (by rw [hx]; decide) (by rw [hx]; decide) (by rw [hx]; rfl) (by decide) (cs_account K Y hi hL N hc hs I hH hS hl)
    | 31, _, hx => exact lv_tableIn (tgt := 2530) (off := 2485) K.1 K.2.1 dL_law_45 (by rw [hx]; decide) (by rw [hx]; decide) (by rw [hx]; rfl) (by decide) (cs_litShare K Y hi hL N hc hs I hH hS hl)
    | 32, _, hx => exact lv_tableIn (tgt := 2598) (off := 2553) K.1 K.2.1 dL_law_45 (by rw [hx]; decide) (by rw [hx]; decide) (by rw [hx]; rfl) (by decide) (cG hi N hc hs I hH hS hl)
    | 33, _, hx => exact lv_tableIn (tgt := 2663) (off := 2618) K.1 K.2.1 dL_law_45 (by rw [hx]; decide) (by rw [hx]; decide) (by rw [hx]; rfl) (by decide) (cs_append K Y hi hL N hc hs I hH hS hl)
    | 34, _, hx => exact lv_tableIn (tgt := 2719) (off := 2674) K.1 K.2.1 dL_law_45 (by rw [hx]; decide) (by rw [hx]; decide) (by rw [hx]; rfl) (by decide) (cs_text K Y hi hL N hc hs I hH hS hl)
    | 35, _, hx => exact lv_tableIn (tgt := 2763) (off := 2718) K.1 K.2.1 dL_law_45 (by rw [hx]; decide) (by rw [hx]; decide) (by rw [hx]; rfl) (by decide) (cs_errorPosition K Y hi hL N hc hs I hH hS hl)
    | 36, _, hx => exact lv_tableIn (tgt := 2776) (off := 2731) K.1 K.2.1 dL_law_45 (by rw [hx]; decide) (by rw [hx]; decide) (by rw [hx]; rfl) (by decide) (cs_report K Y hi hL N hc hs I hH hS hl)
    | 37, _, hx => exact lv_tableIn (tgt := 2832) (off := 2787) K.1 K.2.1 dL_law_45 (by rw [hx]; decide) (by rw [hx]; decide) (by rw [hx]; rfl) (by decide) (cs_character K Y hi hL N hc hs I hH hS hl)
    | 38, _, hx => exact lv_tableIn (tgt := 2888) (off := 2843) K.1 K.2.1 dL_law_45 (by rw [hx]; decide) (by rw [hx]; decide) (by rw [hx]; rfl) (by decide) (cs_undo K Y hi hL N hc hs I hH hS hl)
    | 39, _, hx => exact lv_tableIn (tgt := 2932) (off := 2887) K.1 K.2.1 dL_law_45 (by rw [hx]; decide) (by rw [hx]; decide) (by rw [hx]; rfl) (by decide) (cs_save K Y hi hL N hc hs I hH hS hl)
    | 40, _, hx => exact lv_tableIn (tgt := 2945) (off := 2900) K.1 K.2.1 dL_law_45 (by rw [hx]; decide) (by rw [hx]; decide) (by rw [hx]; rfl) (by decide) (cs_restore K Y hi hL N hc hs I hH hS hl)
    | n + 41, _, hx =>
      refine lv_tableOut (tgt := 2989) K.1 K.2.1 dL_law_45 (Or.inr (by rw [hx]; omega)) (by decide) ?_
      refine W.widen (k := cells + 1) (n := slots + 6) (by omega) (by omega) ?_
      exact law_end K N I hH hS hl
end LLP
