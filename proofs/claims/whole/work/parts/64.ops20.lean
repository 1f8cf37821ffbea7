/-! call: group -/
def dflt (i : Nat) : Int32 := if i = 4 ∨ (6 ≤ i ∧ i ≤ 8) then -1 else 0
def gmem (N : Mem) (j g : Nat) : Nat → Mem
  | 0 => N
  | i + 1 => mset (gmem N j g i) 1 (gx j g i) (dflt i)
theorem gx_w {j g a b : Nat} (h : gx j g a = gx j g b) : a = b := by unfold gx at h; omega
theorem gmem_o (N : Mem) (j g : Nat) {r : Nat} (hr : r ≠ 1) : ∀ i, gmem N j g i r = N r
  | 0 => rfl
  | i + 1 => (ms_other _ _ _ hr).trans (gmem_o N j g hr i)
theorem gmem_h (N : Mem) (j g : Nat) : ∀ i q, q < i → gmem N j g i 1 (gx j g q) = dflt q
  | 0, q, h => absurd h (by omega)
  | i + 1, q, h => by
    show mset _ 1 _ _ 1 _ = _
    rw [ms_same]
    by_cases e : q = i
    · subst e; rw [up_at, if_pos rfl]
    · rw [pk_un (fun z => e (gx_w z))]; exact gmem_h N j g i q (by omega)
theorem gmem_k (N : Mem) (j g : Nat) {k : Nat} : ∀ i, (∀ q, q < i → k ≠ gx j g q) → gmem N j g i 1 k = N 1 k
  | 0, _ => rfl
  | i + 1, h => by
    show mset _ 1 _ _ 1 _ = _
    rw [ms_same, pk_un (h i (by omega))]; exact gmem_k N j g i (fun q hq => h q (by omega))
theorem m_group_lp (N : Mem) {j g : Nat} (hj : j < 4) (hg : g < 6) (k14 : Mem → Option (Int32 × Mem)) : lp (fX10_group_L1 (nI (gx j g 0)) k14) FU (0, N) = k14 (gmem N j g 13) := by
  refine lp_at (fun i => (nI i, gmem N j g i)) 13 (by omega) rfl (fun i hi k => ?_) (fun k => ?_)
  · simp only [fX10_group_L1]
    have ea : nI (gx j g 0) + nI i = nI (gx j g i) := by rw [nI_add]; exact congrArg nI (by unfold gx; omega)
    have ib' : inb (nI (gx j g i)) 490 = true := ib 490 (by unfold gx; omega) (by omega)
    rw [if_neg (show ¬ (13 : Int32) ≤ nI i from nI_ge (b := 13) hi (by omega)), f_in]
    simp only [clp_e, b01_ite, jn_e, bnd_e, nI_1, ea, grd_T ib', nI_clamp (show gx j g i < 2 ^ 31 by unfold gx; omega)]
    show _ = k (nI (i + 1), mset (gmem N j g i) 1 (gx j g i) (dflt i))
    unfold dflt
    by_cases c4 : i = 4
    · subst c4; rw [if_pos (show nI 4 = 4 from rfl), if_pos (by omega)]
    · rw [if_neg (show ¬ nI i = 4 from fun z => c4 ((nI_eq (a := i) (b := 4) (by omega) (by omega)).mp z))]
      by_cases c6 : 6 ≤ i ∧ i ≤ 8
      · rw [if_pos (by rw [Bool.and_eq_true, decide_eq_true_iff, decide_eq_true_iff]; exact ⟨nI_le (a := 6) c6.1 (by omega), nI_le (b := 8) c6.2 (by omega)⟩), if_pos (Or.inr c6)]
      · rw [if_neg (by
          rw [Bool.and_eq_true, decide_eq_true_iff, decide_eq_true_iff]
          intro z
          exact c6 ⟨(nI_leI (a := 6) (by omega) (by omega)).mp z.1, (nI_leI (b := 8) (by omega) (by omega)).mp z.2⟩), if_neg (by omega)]
  · simp only [fX10_group_L1]
    rw [if_pos (show (13 : Int32) ≤ nI 13 from nI_le (a := 13) (b := 13) (by omega) (by omega))]
/-- the state with a new group n of junction j -/
def GA (A A' : Ar) (j n : Nat) (kd ls rb : Int32) : Prop := A' (ix j 2) = nI (n + 1) ∧ A' (gx j n 0) = kd ∧ A' (gx j n 1) = ls ∧ A' (gx j n 2) = rb ∧ (∀ i, 3 ≤ i → i < 13 → A' (gx j n i) = dflt i) ∧ ∀ k, k ≠ ix j 2 → (∀ i, i < 13 → k ≠ gx j n i) → A' k = A k
theorem RJ_group {M : Mem} {J : Nat} {A A' : Ar} {j n : Nat} {kd ls rb p3 : Int32} (h : RJ M J A j) (v : VJ A j) (hn : A (ix j 2) = nI n) (hn6 : n < 6) (hG : GA A A' j n kd ls rb) (hrb : rb = if p3 = 0 then 0 else 1) : RJ (mset (mset (mset (mset M (J + 2) n kd) (J + 3) n ls) J 7 (M J 7 ||| (if p3 = 0 then (0 : Int32) else 1 <<< (nI n &&& 31)))) J 2 (nI n + 1)) J A' j := by
  obtain ⟨h1, h2, h3, h4, h5, h6, h7, h8, h9, h10, h11, h12, h13⟩ := h
  obtain ⟨g1, g2, g3, g4, g5, g6⟩ := hG
  have dead := (v.2.2.2.2.2.2.1 n hn6).2.2.2.2.2.2.2.2.2 (by rw [hn]; exact nI_nlt (Nat.le_refl _) (by omega))
  have e2 : A' 2 = A 2 := g6 2 (by unfold ix; omega) (fun i hi => by unfold gx; omega)
  have ei : ∀ k, k < 7 → k ≠ 2 → A' (ix j k) = A (ix j k) := fun k hk h2 => g6 _ (by unfold ix; omega) (fun i hi => by unfold ix gx; omega)
  have ec : ∀ a b, a < 6 → b < 6 → A' (cx j a b) = A (cx j a b) := fun a b _ _ => g6 _ (by unfold ix cx; omega) (fun i hi => by unfold cx gx; omega)
  have eg : ∀ g w, g < 6 → w < 13 → g ≠ n → A' (gx j g w) = A (gx j g w) := fun g w hg hw hne => g6 _ (by unfold ix gx; omega) (fun i hi z => hne (gx_inj hw hi z).1)
  have ez : ∀ w, w = 3 ∨ w = 5 ∨ (9 ≤ w ∧ w < 13) → A' (gx j n w) = A (gx j n w) := fun w hw => by
    rw [g5 w (by omega) (by omega), dead w (by omega)]; unfold dflt; rw [if_neg (by omega)]
  have em : ∀ w, w = 4 ∨ (6 ≤ w ∧ w ≤ 8) → A' (gx j n w) = -1 := fun w hw => by
    rw [g5 w (by omega) (by omega)]; unfold dflt; rw [if_pos hw]
  have hlv : ∀ g x, g < 6 → g ≠ n → lvg A' j g x = lvg A j g x := fun g x hg hne => by
    unfold lvg
    rw [g1, hn]
    by_cases c : g < n
    · rw [if_pos (nI_lt (by omega) (by omega)), if_pos (nI_lt c (by omega))]
    · rw [if_neg (nI_nlt (by omega) (by omega)), if_neg (nI_nlt (by omega) (by omega))]
  have hlvn : ∀ x, lvg A' j n x = x := fun x => by unfold lvg; rw [g1, if_pos (nI_lt (by omega) (by omega))]
  have hdn : ∀ x, lvg A j n x = -1 := fun x => by unfold lvg; rw [hn, if_neg (nI_nlt (Nat.le_refl _) (by omega))]
  refine ⟨fun w hw => ?_, ?_, ?_, ?_, fun d hd => ?_, fun g hg => ?_, fun g hg => ?_, fun g hg => ?_, fun g hg => ?_, fun g hg p hp => ?_, fun a ha b hb => ?_, fun p hp g hg => ?_, fun p hp g hg => ?_⟩
  · by_cases c : w = 2
    · subst c; rw [ms_at, if_pos ⟨rfl, rfl⟩, g1, nI_1]
    · rw [ms_at, if_neg (by omega), ms_at, if_neg (by omega), ms_other _ _ _ (by omega), ms_other _ _ _ (by omega), ei w (by omega) c]; exact h1 w hw
  · rw [ms_at, if_neg (by omega), ms_at, if_neg (by omega), ms_other _ _ _ (by omega), ms_other _ _ _ (by omega)]
    unfold lvj; rw [e2, ei 4 (by omega) (by omega)]; exact h2
  · rw [ms_at, if_neg (by omega), ms_at, if_pos ⟨rfl, rfl⟩, h3]
    by_cases c : p3 = 0
    · rw [if_pos c, Int32.or_zero]
      refine bits_cong 6 (fun i hi => ?_)
      unfold rq
      by_cases e : i = n
      · subst e; rw [g4, hrb, if_pos c, dead 2 (by omega)]
      · rw [eg i 2 hi (by omega) e]
    · rw [if_neg c, bit6_set _ hn6]
      refine bits_cong 6 (fun i hi => ?_)
      unfold rq
      by_cases e : i = n
      · subst e; rw [if_pos rfl, g4, hrb, if_neg c]; rfl
      · rw [if_neg e, eg i 2 hi (by omega) e]
  · rw [ms_at, if_neg (by omega), ms_at, if_neg (by omega), ms_other _ _ _ (by omega), ms_other _ _ _ (by omega), h4]
    refine bits_cong 6 (fun i hi => ?_)
    unfold gv
    by_cases e : i = n
    · subst e; rw [ez 5 (by omega)]
    · rw [eg i 5 hi (by omega) e]
  · rw [ms_other _ _ _ (by omega), ms_other _ _ _ (by omega), ms_other _ _ _ (by omega), ms_other _ _ _ (by omega)]
    unfold lvj; rw [e2, ei (5 + d) (by omega) (by omega)]; exact h5 d hd
  · rw [ms_other _ _ _ (by omega), ms_other _ _ _ (by omega), ms_other _ _ _ (by omega), ms_at]
    by_cases e : g = n
    · subst e; rw [if_pos ⟨rfl, rfl⟩, g2]
    · rw [if_neg (by omega), eg g 0 hg (by omega) e]; exact h6 g hg
  · rw [ms_other _ _ _ (by omega), ms_other _ _ _ (by omega), ms_at]
    by_cases e : g = n
    · subst e; rw [if_pos ⟨rfl, rfl⟩, g3]
    · rw [if_neg (by omega), ms_other _ _ _ (by omega), eg g 1 hg (by omega) e]; exact h7 g hg
  · rw [ms_other _ _ _ (by omega), ms_other _ _ _ (by omega), ms_other _ _ _ (by omega), ms_other _ _ _ (by omega)]
    by_cases e : g = n
    · subst e; rw [ez 3 (by omega)]; exact h8 g hg
    · rw [eg g 3 hg (by omega) e]; exact h8 g hg
  · rw [ms_other _ _ _ (by omega), ms_other _ _ _ (by omega), ms_other _ _ _ (by omega), ms_other _ _ _ (by omega), h9 g hg]
    by_cases e : g = n
    · subst e; rw [hdn, hlvn, em 4 (by omega)]
    · rw [hlv g _ hg e, eg g 4 hg (by omega) e]
  · rw [ms_other _ _ _ (by omega), ms_other _ _ _ (by omega), ms_other _ _ _ (by omega), ms_other _ _ _ (by omega), h10 g hg p hp]
    by_cases e : g = n
    · subst e; rw [hdn, hlvn, em (6 + p) (by omega)]
    · rw [hlv g _ hg e, eg g (6 + p) hg (by omega) e]
  · rw [ms_other _ _ _ (by omega), ms_other _ _ _ (by omega), ms_other _ _ _ (by omega), ms_other _ _ _ (by omega), h11 a ha b hb]
    unfold lvj kl; rw [e2, ec a b ha hb]
  · rw [ms_other _ _ _ (by omega), ms_other _ _ _ (by omega), ms_other _ _ _ (by omega), ms_other _ _ _ (by omega), h12 p hp g hg]
    unfold fs
    by_cases e : g = n
    · subst e; rw [ez (9 + 2 * p) (by omega)]
    · rw [eg g (9 + 2 * p) hg (by omega) e]
  · rw [ms_other _ _ _ (by omega), ms_other _ _ _ (by omega), ms_other _ _ _ (by omega), ms_other _ _ _ (by omega), h13 p hp g hg]
    unfold ln
    by_cases e : g = n
    · subst e; rw [ez (10 + 2 * p) (by omega)]
    · rw [eg g (10 + 2 * p) hg (by omega) e]
theorem VJ_group {A A' : Ar} {j n : Nat} {kd ls rb : Int32} (V : Val A) (v : VJ A j) (hn : A (ix j 2) = nI n) (hn6 : n < 6) (hG : GA A A' j n kd ls rb) (b0 : bt kd 0 2) (b1 : bt ls 4 30) (b2 : bt rb 0 1) : VJ A' j := by
  obtain ⟨g1, g2, g3, g4, g5, g6⟩ := hG
  obtain ⟨v1, v2, v3, v4, v5, v6, v7, v8⟩ := v
  have dead := (v7 n hn6).2.2.2.2.2.2.2.2.2 (by rw [hn]; exact nI_nlt (Nat.le_refl _) (by omega))
  have e0 : A' 0 = A 0 := g6 0 (by unfold ix; omega) (fun i hi => by unfold gx; omega)
  have e3 : A' 3 = A 3 := g6 3 (by unfold ix; omega) (fun i hi => by unfold gx; omega)
  have ei : ∀ k, k < 7 → k ≠ 2 → A' (ix j k) = A (ix j k) := fun k hk h2 => g6 _ (by unfold ix; omega) (fun i hi => by unfold ix gx; omega)
  have ec : ∀ a b, a < 6 → b < 6 → kl A' j a b = kl A j a b := fun a b _ _ => g6 _ (by unfold ix cx; omega) (fun i hi => by unfold cx gx; omega)
  have eg : ∀ g w, g < 6 → w < 13 → g ≠ n → A' (gx j g w) = A (gx j g w) := fun g w hg hw hne => g6 _ (by unfold ix gx; omega) (fun i hi z => hne (gx_inj hw hi z).1)
  have ez : ∀ w, 9 ≤ w → w < 13 → A' (gx j n w) = A (gx j n w) := fun w h1 h2 => by
    rw [g5 w (by omega) (by omega), dead w (by omega)]; unfold dflt; rw [if_neg (by omega)]
  have ef : ∀ g p, g < 6 → p < 2 → fs A' j p g = fs A j p g ∧ ln A' j p g = ln A j p g := fun g p hg hp => by
    unfold fs ln
    by_cases e : g = n
    · subst e; exact ⟨ez _ (by omega) (by omega), ez _ (by omega) (by omega)⟩
    · exact ⟨eg g _ hg (by omega) e, eg g _ hg (by omega) e⟩
  have es : (A (ix j 2)).toInt = n := by rw [hn, nI_toInt (by omega)]
  have es' : (A' (ix j 2)).toInt = n + 1 := by rw [g1, nI_toInt (by omega)]; omega
  have z0 : Int32.toInt 0 = 0 := rfl
  have zm : Int32.toInt (-1) = -1 := by decide
  have ht := V.1.2.2.2.1.1
  refine ⟨by rw [ei 0 (by omega) (by omega)]; exact v1, by rw [ei 1 (by omega) (by omega), e0]; exact v2, by unfold bt; rw [es']; omega, by rw [ei 3 (by omega) (by omega)]; exact v4, by rw [ei 4 (by omega) (by omega)]; exact v5, fun d hd => by
    have := v6 d hd
    rw [ei (5 + d) (by omega) (by omega), es']
    rw [es] at this
    exact ⟨this.1, by have := this.2; omega⟩, fun g hg => ?_, fun a ha b hb => ?_⟩
  · by_cases e : g = n
    · subst e
      obtain ⟨q0, q1, q2, q3, q4, q5, q6, q7, q8, q9⟩ := v7 g hg
      refine ⟨by rw [g2]; exact b0, by rw [g3]; exact ⟨by have := b1.1; omega, b1.2⟩, by rw [g4]; exact b2, ?_, ?_, ?_, fun p hp => ?_, fun p hp => ?_, fun _ => by rw [g3]; exact b1.1, fun hl => absurd (by rw [g1]; exact nI_lt (by omega) (by omega)) hl⟩
      · rw [g5 3 (by omega) (by omega)]; unfold dflt bt; rw [if_neg (by omega), z0, e3]; omega
      · rw [g5 4 (by omega) (by omega)]; unfold dflt bt; rw [if_pos (by omega), zm, e3]; omega
      · rw [g5 5 (by omega) (by omega)]; unfold dflt bt; rw [if_neg (by omega), z0]; omega
      · rw [g5 (6 + p) (by omega) (by omega)]; unfold dflt bt; rw [if_pos (by omega), zm]; omega
      · rw [(ef g p hg hp).1, (ef g p hg hp).2, e0]; exact q7 p hp
    · obtain ⟨q0, q1, q2, q3, q4, q5, q6, q7, q8, q9⟩ := v7 g hg
      have hlt : nI g < A' (ix j 2) ↔ nI g < A (ix j 2) := by
        rw [ti_lt, ti_lt, es, es', nI_toInt (by omega)]; omega
      refine ⟨by rw [eg g 0 hg (by omega) e]; exact q0, by rw [eg g 1 hg (by omega) e]; exact q1, by rw [eg g 2 hg (by omega) e]; exact q2, by rw [eg g 3 hg (by omega) e, e3]; exact q3, by rw [eg g 4 hg (by omega) e, e3]; exact q4, by rw [eg g 5 hg (by omega) e]; exact q5, fun p hp => by rw [eg g (6 + p) hg (by omega) e]; exact q6 p hp, fun p hp => by rw [(ef g p hg hp).1, (ef g p hg hp).2, e0]; exact q7 p hp, fun hl => by rw [eg g 1 hg (by omega) e]; exact q8 (hlt.mp hl), fun hl w hw => by rw [eg g w hg hw e]; exact q9 (fun z => hl (hlt.mpr z)) w hw⟩
  · obtain ⟨c1, c2, c3, c4⟩ := v8 a ha b hb
    refine ⟨by rw [ec a b ha hb]; exact c1, by rw [ec a b ha hb, ec b a hb ha]; exact c2, ?_, ?_⟩
    · rw [ec a b ha hb]
      intro h
      obtain ⟨d1, d2, d3⟩ := c3 h
      rw [ti_lt, es] at d2 d3
      refine ⟨d1, ?_, ?_⟩ <;> (rw [ti_lt, es']; omega)
    · rw [ec a b ha hb]
      intro h p hp
      rw [(ef a p ha hp).1, (ef a p ha hp).2, (ef b p hb hp).1, (ef b p hb hp).2, e0]
      exact c4 h p hp
section O20
variable {Mx Mm : Mem}
theorem st_group (I : Inv Mx Mm) (p kd ls rb : Int32) : ∃ rx Mx' vm Mm', fX9_group Mx p kd ls rb = some (rx, Mx') ∧ fX10_group Mm p kd ls rb = some (vm, Mm') ∧ Agr [0, 1, 2] rx vm Mm' ∧ Inv Mx' Mm' := by
  have I0 := I.th 0
  obtain ⟨N, hN⟩ : ∃ z, z = mset Mm 0 0 0 := ⟨_, rfl⟩
  rw [← hN] at I0
  obtain ⟨hR, hV, hH, hT⟩ := id I0
  have h00 : N 0 0 = 0 := by rw [hN, ms_at, if_pos ⟨rfl, rfl⟩]
  unfold fX9_group fX10_group
  simp only [bnd_e, ← hN, jn_e]
  rw [m_ij, clp_e, b01_ite, f_in, clp_e, b01_ite, f_in, clp_e, b01_ite]
  by_cases hj : inJ (N 1) p = true
  · obtain ⟨j, rfl, hj4, hl⟩ := inJ_ex hV hj
    have hJ := hV.2.1 j hj4 hl
    obtain ⟨n, hn6, hn⟩ := hJ.sz
    rw [if_pos hj, x_found hR hV hj4 hl, clpm_r, grd_T (jb hj4), f_isWithin, clp_e, b01_ite, f_isWithin, clp_e, b01_ite]
    by_cases h0 : (decide (0 ≤ kd) && decide (kd ≤ 2)) = true
    · rw [if_pos h0, if_pos h0]
      by_cases h1 : (decide (4 ≤ ls) && decide (ls ≤ 30)) = true
      · rw [if_pos h1, if_pos h1, need_T', clpm_r, m_of2 hj4, clp_e, (hR.j hj4).w (show 2 < 4 by omega), hn]
        by_cases h6 : n = 6
        · subst h6
          rw [if_pos (by decide), if_pos (by decide)]
          rw [need_3', clpm_l, m_raises, cl_e]
          exact ⟨_, _, _, _, rfl, rfl, fin_x I0 2 rfl _ _ rfl⟩
        · have hn6' : n < 6 := by omega
          rw [if_neg (show ¬ (6 : Int32) ≤ nI n from nI_ge (b := 6) hn6' (by omega)), if_neg (show ¬ nI n = 6 from fun z => h6 ((nI_eq (a := n) (b := 6) (by omega) (by omega)).mp z)), need_T', clpm_r]
          obtain ⟨Mx1, K, a1, a2, a3, a4, a5, a6, a7, a8⟩ := changes_ok I0
          have k1 : K 1 = N 1 := a3 1 (by omega) (by omega) (by omega)
          have eb : (6 : Int32) + 121 * nI j + 7 + 13 * nI n = nI (gx j n 0) := by rw [at_g]; rfl
          have e1 : nI (gx j n 0) + 1 = nI (gx j n 1) := nI_1 _
          have e2 : nI (gx j n 0) + 2 = nI (gx j n 2) := nI_add _ 2
          have i0 : ∀ w, w < 13 → inb (nI (gx j n w)) 490 = true := fun w hw => ib 490 (by unfold gx; omega) (by omega)
          have c0 : ∀ w, w < 13 → (nI (gx j n w)).toNatClampNeg = gx j n w := fun w hw => nI_clamp (by unfold gx; omega)
          have ex : (6 : Int32) + 121 * nI j + 2 = nI (ix j 2) := at_ix j 2
          unfold fX10_groupAt fX2_addGroup
          rw [a1, cl_e, a2, cl_e, clp_e, eb, m_group_lp K hj4 hn6' _, bnd_e, (a7.j hj4).w (show 2 < 4 by omega), hn, grd_T (inb_nI hn6' (by omega)), nI_clamp (by omega), bnd_e, grd_T (inb_nI hn6' (by omega)), bnd_e, jn_e]
          unfold fX10_at
          rw [grd_T (i0 0 (by omega)), c0 0 (by omega), e1, grd_T (i0 1 (by omega)), c0 1 (by omega), e2, grd_T (i0 2 (by omega)), c0 2 (by omega)]
          simp only [clp_e, ex, grd_T (show inb (nI (ix j 2)) 490 = true from ib 490 (by unfold ix; omega) (by omega)), nI_clamp (show ix j 2 < 2 ^ 31 by unfold ix; omega), bnd_e]
          obtain ⟨rv, hrv⟩ : ∃ rv : Int32, rv = if rb = 0 then 0 else 1 := ⟨_, rfl⟩
          obtain ⟨L, hL⟩ : ∃ L : Int32 → Mem, L = fun rv => mset (mset (mset (mset (gmem K j n 13) 1 (gx j n 0) kd) 1 (gx j n 1) ls) 1 (gx j n 2) rv) 1 (ix j 2) (mset (mset (mset (gmem K j n 13) 1 (gx j n 0) kd) 1 (gx j n 1) ls) 1 (gx j n 2) rv 1 (ix j 2) + 1) := ⟨_, rfl⟩
          have eL : ∀ rv, mset (mset (mset (mset (gmem K j n 13) 1 (gx j n 0) kd) 1 (gx j n 1) ls) 1 (gx j n 2) rv) 1 (ix j 2) (mset (mset (mset (gmem K j n 13) 1 (gx j n 0) kd) 1 (gx j n 1) ls) 1 (gx j n 2) rv 1 (ix j 2) + 1) = L rv := fun rv => by rw [hL]
          simp only [eL]
          have Lo : ∀ r, r ≠ 1 → L rv r = K r := fun r hr => by rw [hL]; dsimp only; rw [ms_other _ _ _ hr, ms_other _ _ _ hr, ms_other _ _ _ hr, ms_other _ _ _ hr, gmem_o K j n hr]
          have L1 : GA (N 1) (L rv 1) j n kd ls rv := by
            rw [hL]; dsimp only
            simp only [ms_same]
            refine ⟨?_, ?_, ?_, ?_, fun i h3 h13 => ?_, fun k hk1 hk2 => ?_⟩
            · rw [up_at, if_pos rfl, pk_un (by unfold ix gx; omega), pk_un (by unfold ix gx; omega), pk_un (by unfold ix gx; omega), gmem_k K j n 13 (fun q hq => by unfold ix gx; omega), k1, hn, nI_1]
            · rw [pk_un (by unfold ix gx; omega), pk_un (fun z => absurd (gx_w z) (by omega)), pk_un (fun z => absurd (gx_w z) (by omega)), up_at, if_pos rfl]
            · rw [pk_un (by unfold ix gx; omega), pk_un (fun z => absurd (gx_w z) (by omega)), up_at, if_pos rfl]
            · rw [pk_un (by unfold ix gx; omega), up_at, if_pos rfl]
            · rw [pk_un (by unfold ix gx; omega), pk_un (fun z => absurd (gx_w z) (by omega)), pk_un (fun z => absurd (gx_w z) (by omega)), pk_un (fun z => absurd (gx_w z) (by omega)), gmem_h K j n 13 i h13]
            · rw [pk_un hk1, pk_un (hk2 2 (by omega)), pk_un (hk2 1 (by omega)), pk_un (hk2 0 (by omega)), gmem_k K j n 13 hk2, k1]
          have hb2 : bt rv 0 1 := by rw [hrv]; split <;> (unfold bt; decide)
          have vj := VJ_group hV hJ hn hn6' L1 (dec_ct h0) (dec_ct h1) hb2
          obtain ⟨X, hX⟩ : ∃ X, X = mset (mset (mset (mset Mx1 (1 + 2 + 10 * j + 2) n kd) (1 + 2 + 10 * j + 3) n ls) (1 + 2 + 10 * j) 7 (Mx1 (1 + 2 + 10 * j) 7 ||| (if rb = 0 then (0 : Int32) else 1 <<< (nI n &&& 31)))) (1 + 2 + 10 * j) 2 (nI n + 1) := ⟨_, rfl⟩
          have rj : RJ X (1 + 2 + 10 * j) (L rv 1) j := by rw [hX]; exact RJ_group (a7.j hj4) hJ hn hn6' L1 hrv
          have m7 : mset (mset Mx1 (1 + 2 + 10 * j + 2) n kd) (1 + 2 + 10 * j + 3) n ls (1 + 2 + 10 * j) 7 = Mx1 (1 + 2 + 10 * j) 7 := by rw [ms_other _ _ _ (by omega), ms_other _ _ _ (by omega)]
          have m2 : ∀ v, mset (mset (mset Mx1 (1 + 2 + 10 * j + 2) n kd) (1 + 2 + 10 * j + 3) n ls) (1 + 2 + 10 * j) 7 v (1 + 2 + 10 * j) 2 = nI n := fun v => by rw [ms_at, if_neg (by omega), ms_other _ _ _ (by omega), ms_other _ _ _ (by omega), (a7.j hj4).w (show 2 < 4 by omega), hn]
          simp only [m7, m2]
          have fin : ∃ rx Mx' vm Mm', (some (Sum.inr (nI n), X) : Option ((Nat ⊕ Int32) × Mem)) = some (rx, Mx') ∧ some (nI n, L rv) = some (vm, Mm') ∧ Agr [0, 1, 2] rx vm Mm' ∧ Inv Mx' Mm' := by
            refine ⟨_, _, _, _, rfl, rfl, ⟨by rw [Lo 0 (by omega), a4 0 (by omega), h00], rfl⟩, ?_⟩
            have lM : MF K (L rv) := ⟨fun k _ => by rw [Lo 0 (by omega)], Lo 2 (by omega), Lo 3 (by omega), Lo 5 (by omega), Lo 6 (by omega)⟩
            have xf : XF Mx1 X := by rw [hX]; exact XF.set (XF.set (XF.set (XF.set (XF.rf Mx1) (by omega)) (by omega)) (by omega)) (by omega)
            refine Inv.of ?_ ?_ xf lM a5 a6
            · refine RS_lift a7 hj4 (fun o _ _ ho => ?_) ?_ ?_ (fun k hk => L1.2.2.2.2.2 k (by unfold ix at hk ⊢; omega) (fun i hi => by unfold ix at hk; unfold gx; omega)) rj
              · rw [hX, ms_other _ _ _ (by omega), ms_other _ _ _ (by omega), ms_other _ _ _ (by omega), ms_other _ _ _ (by omega)]
              · rw [hX, ms_at, if_neg (by omega), ms_at, if_neg (by omega), ms_other _ _ _ (by omega), ms_other _ _ _ (by omega)]
              · rw [hX, ms_at, if_neg (by omega), ms_at, if_neg (by omega), ms_other _ _ _ (by omega), ms_other _ _ _ (by omega)]
            · exact Val_lift hV hj4 hl (fun k hk => L1.2.2.2.2.2 k (by unfold ix at hk ⊢; omega) (fun i hi => by unfold ix at hk; unfold gx; omega)) (L1.2.2.2.2.2 _ (by unfold ix; omega) (fun i hi => by unfold ix gx; omega)) vj
          by_cases z : rb = 0
          · rw [if_pos z] at hrv hX
            rw [if_pos z, if_pos z, cl_e, ← hX, ← hrv]; exact fin
          · rw [if_neg z] at hrv hX
            rw [if_neg z, if_neg z, cl_e, ← hX, ← hrv, grd_T (i0 2 (by omega))]; exact fin
      · rw [if_neg h1, if_neg h1, need_2', clpm_l, m_raises, cl_e]
        exact ⟨_, _, _, _, rfl, rfl, fin_x I0 1 rfl _ _ rfl⟩
    · rw [if_neg h0, if_neg h0, need_2', clpm_l, m_raises, cl_e]
      exact ⟨_, _, _, _, rfl, rfl, fin_x I0 1 rfl _ _ rfl⟩
  · rw [if_neg hj, x_found_no hR (Bool.not_eq_true _ |>.mp hj), clpm_l, m_raises, cl_e]
    exact ⟨_, _, _, _, rfl, rfl, fin_x I0 0 rfl _ _ rfl⟩
end O20
