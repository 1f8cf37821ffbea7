/-! calls: groupTold, cycle, save, restore, undo -/
theorem not_lit {q : Int32} (h : ¬ (decide (0 ≤ q) && decide (q ≤ 7)) = true) : ¬ q = 0 ∧ ¬ q = 1 ∧ ¬ q = 2 ∧ ¬ q = 3 ∧ ¬ q = 4 ∧ ¬ q = 5 ∧ ¬ q = 6 ∧ ¬ q = 7 := by
  refine ⟨?_, ?_, ?_, ?_, ?_, ?_, ?_, ?_⟩ <;> (intro z; subst z; exact h (by decide))
theorem m_confSet {M : Mem} {j g n : Nat} (hj : j < 4) (hg : g < 6) (hn : M 1 (ix j 2) = nI n) (h6 : n ≤ 6) : lp (fX10_groupTold_L1 (nI j) (nI g) M) FU (0, 0) = some (bits (fun o => cf (M 1) j g o) n, M) := by
  refine lp_at (fun i => (bits (fun o => cf (M 1) j g o) i, nI i)) n (by omega) rfl (fun i hi k => ?_) (fun k => ?_)
  · simp only [fX10_groupTold_L1]
    rw [m_of2 hj, hn, clp_e, if_neg (nI_ge hi (by omega)), m_clear hj hg (by omega), clp_e, jn_e, cf_neg]
    simp only [bnd_e, nI_1]
    by_cases hb : cf (M 1) j g i = true
    · rw [if_pos hb]; simp only [bits, hb, if_true]
    · rw [if_neg hb]; simp [bits, hb]
  · simp only [fX10_groupTold_L1]
    rw [m_of2 hj, hn, clp_e, if_pos (nI_le (Nat.le_refl _) (by omega))]
theorem rq_val {A : Ar} {j g : Nat} (v : VJ A j) (hg : g < 6) : A (gx j g 2) = b01 (rq A j g) := by
  have h := (v.2.2.2.2.2.2.1 g hg).2.2.1
  have h0 : Int32.toInt 0 = 0 := rfl
  have h1 : Int32.toInt 1 = 1 := rfl
  unfold rq
  by_cases c : A (gx j g 2) = 1
  · rw [c]; rfl
  · rw [decide_eq_false c]
    show _ = (0 : Int32)
    rw [ti_eq] at c ⊢
    have := h.1; have := h.2
    omega
theorem gv_val {A : Ar} {j g : Nat} (v : VJ A j) (hg : g < 6) : A (gx j g 5) = b01 (gv A j g) := by
  have h := (v.2.2.2.2.2.2.1 g hg).2.2.2.2.2.1
  have h0 : Int32.toInt 0 = 0 := rfl
  have h1 : Int32.toInt 1 = 1 := rfl
  unfold gv
  by_cases c : A (gx j g 5) = 1
  · rw [c]; rfl
  · rw [decide_eq_false c]
    show _ = (0 : Int32)
    rw [ti_eq] at c ⊢
    have := h.1; have := h.2
    omega
theorem b01_01 (b : Bool) {β : Type} (f : Int32 → β) : (if b01 b = 0 then f 0 else f 1) = f (b01 b) := by cases b <;> rfl
theorem cn0 {p q : Nat → Bool} : ∀ n, (cn p n + cn q n = 0) ↔ al (fun g => !p g && !q g) n = true
  | 0 => by simp [cn, al]
  | n + 1 => by
    have ih := cn0 (p := p) (q := q) n
    show (cn p n + (if p n = true then 1 else 0) + (cn q n + (if q n = true then 1 else 0)) = 0) ↔ (al (fun g => !p g && !q g) n && (!p n && !q n)) = true
    rw [Bool.and_eq_true, ← ih]
    cases p n <;> cases q n <;> simp
def tk (A : Ar) (p : Int32) (j : Nat) : Bool := al (fun g => !gr A j 0 g && !gr A j 1 g) (A (ix j 2)).toNatClampNeg && (decide (A (ix j 1) < p) && decide (A (ix j 4) < 0))
theorem x_canTake {M : Mem} {A : Ar} (hR : RS M 1 A) (V : Val A) (p : Int32) : ∃ n, n ≤ 4 ∧ A 2 = nI n ∧ fX6_canTakeCycle M 1 p = some (b01 (al (tk A p) n)) := by
  obtain ⟨n, hn4, hn⟩ := V.ct
  refine ⟨n, hn4, hn, ?_⟩
  unfold fX6_canTakeCycle
  rw [jn_e]
  have main := lp_srch (f := fX6_canTakeCycle_L1 1 p M (fun _ => some 0)) (s0 := (0 : Int32)) (fun i => nI i) (tk A p) (rt := some (1 : Int32)) (rf := fun _ => some (0 : Int32)) n (by omega) rfl ?_ ?_ ?_
  · rcases main with ⟨h1, h2⟩ | ⟨i, h1, h2, h3, h4⟩
    · rw [h2, h1]; rfl
    · rw [h4]
      have : al (tk A p) n = false := by
        cases c : al (tk A p) n
        · rfl
        · have := al_T.mp c i h1; rw [h2] at this; cases this
      rw [this]; rfl
  all_goals (try (intro i hi ht k))
  · have hl : nI i < A 2 := by rw [hn]; exact nI_lt hi (by omega)
    have hJ := V.2.1 i (by omega) hl
    obtain ⟨q, hq6, hq⟩ := hJ.sz
    have hcl : (A (ix i 2)).toNatClampNeg = q := by rw [hq, nI_clamp (by omega)]
    unfold tk at ht
    rw [hcl, Bool.and_eq_true, Bool.and_eq_true, decide_eq_true_iff, decide_eq_true_iff] at ht
    obtain ⟨t1, t2, t3⟩ := ht
    have t0 := (cn0 q).mpr t1
    simp only [fX6_canTakeCycle_L1]
    have g0 : fX2_greenCount M (1 + 2 + 10 * i) 0 = some (nI (cn (fun g => gr A i 0 g) q)) := x_greenCount (hR.j (j := i) (by omega)) hq hq6 (p := 0) (by omega)
    have g1 : fX2_greenCount M (1 + 2 + 10 * i) 1 = some (nI (cn (fun g => gr A i 1 g) q)) := x_greenCount (hR.j (j := i) (by omega)) hq hq6 (p := 1) (by omega)
    rw [if_neg (by rw [hR.w3, hn]; exact nI_ge hi (by omega)), grd_T (inb_nI (by omega) (by omega)), nI_clamp (by omega), g0, clp_e, g1, clp_e, jn_e, nI_add, show cn (fun g => gr A i 0 g) q + cn (fun g => gr A i 1 g) q = 0 from t0, if_pos (show nI 0 ≤ 0 by decide)]
    dsimp only
    rw [if_pos rfl, (hR.j (j := i) (by omega)).w (by omega), if_neg (by rw [ti_le]; rw [ti_lt] at t2; omega), x_planned (hR.j (by omega)) hl hJ, clp_e, b01_ite, if_neg (by rw [decide_eq_true_iff, ti_le]; rw [ti_lt] at t3; omega), bnd_e, nI_1]
  · have hl : nI i < A 2 := by rw [hn]; exact nI_lt hi (by omega)
    have hJ := V.2.1 i (by omega) hl
    obtain ⟨q, hq6, hq⟩ := hJ.sz
    have hcl : (A (ix i 2)).toNatClampNeg = q := by rw [hq, nI_clamp (by omega)]
    unfold tk at ht
    rw [hcl] at ht
    simp only [fX6_canTakeCycle_L1]
    have g0 : fX2_greenCount M (1 + 2 + 10 * i) 0 = some (nI (cn (fun g => gr A i 0 g) q)) := x_greenCount (hR.j (j := i) (by omega)) hq hq6 (p := 0) (by omega)
    have g1 : fX2_greenCount M (1 + 2 + 10 * i) 1 = some (nI (cn (fun g => gr A i 1 g) q)) := x_greenCount (hR.j (j := i) (by omega)) hq hq6 (p := 1) (by omega)
    rw [if_neg (by rw [hR.w3, hn]; exact nI_ge hi (by omega)), grd_T (inb_nI (by omega) (by omega)), nI_clamp (by omega), g0, clp_e, g1, clp_e, jn_e, nI_add]
    have l0 := cn_le (fun g => gr A i 0 g) q
    have l1 := cn_le (fun g => gr A i 1 g) q
    by_cases c1 : cn (fun g => gr A i 0 g) q + cn (fun g => gr A i 1 g) q = 0
    · rw [(cn0 q).mp c1, Bool.true_and] at ht
      rw [c1, if_pos (show nI 0 ≤ 0 by decide)]
      dsimp only
      rw [if_pos rfl, (hR.j (j := i) (by omega)).w (by omega)]
      by_cases c2 : A (ix i 1) < p
      · rw [decide_eq_true c2, Bool.true_and, decide_eq_false_iff_not] at ht
        rw [if_neg (by rw [ti_le]; rw [ti_lt] at c2; omega), x_planned (hR.j (by omega)) hl hJ, clp_e, b01_ite, if_pos (by rw [decide_eq_true_iff, ti_le]; rw [ti_lt] at ht; omega)]
      · rw [if_pos (by rw [ti_le]; rw [ti_lt] at c2; omega)]
    · rw [if_neg (nI_nle (by omega) (by omega))]
      dsimp only
      rw [if_neg (by decide)]
  · intro k
    simp only [fX6_canTakeCycle_L1]
    rw [if_pos (by rw [hR.w3, hn]; exact nI_le (Nat.le_refl _) (by omega))]
theorem m_tk {N : Mem} (V : Val (N 1)) (p : Int32) {n : Nat} (hn4 : n ≤ 4) (hn : N 1 2 = nI n) {r : Option (Int32 × Mem)} {rf : Option (Int32 × Mem)} : lp (fX10_cycle_L2 p N (fun _ => r) (fun _ => rf) (fun _ => rf)) FU 0 = if al (tk (N 1) p) n = true then r else rf := by
  have main := lp_srch (f := fX10_cycle_L2 p N (fun _ => r) (fun _ => rf) (fun _ => rf)) (s0 := (0 : Int32)) (fun i => nI i) (tk (N 1) p) (rt := r) (rf := fun _ => rf) n (by omega) rfl ?_ ?_ ?_
  · rcases main with ⟨h1, h2⟩ | ⟨i, h1, h2, h3, h4⟩
    · rw [h2, if_pos h1]
    · rw [h4, if_neg]
      intro c
      have := al_T.mp c i h1; rw [h2] at this; cases this
  all_goals (try (intro i hi ht k))
  · have hl : nI i < N 1 2 := by rw [hn]; exact nI_lt hi (by omega)
    have hJ := V.2.1 i (by omega) hl
    obtain ⟨q, hq6, hq⟩ := hJ.sz
    have hcl : (N 1 (ix i 2)).toNatClampNeg = q := by rw [hq, nI_clamp (by omega)]
    unfold tk at ht
    rw [hcl, Bool.and_eq_true, Bool.and_eq_true, decide_eq_true_iff, decide_eq_true_iff] at ht
    obtain ⟨t1, t2, t3⟩ := ht
    simp only [fX10_cycle_L2]
    rw [grd_T ib2, tc2, hn, if_neg (nI_ge hi (by omega)), m_of1 (by omega), clp_e, if_neg (by rw [ti_le]; rw [ti_lt] at t2; omega), m_of4 (by omega), clp_e, if_pos t3, jn_e]
    refine lp_at (fun g => nI g) q (by omega) rfl (fun g hg k2 => ?_) (fun k2 => ?_)
    · have hb := al_T.mp t1 g hg
      rw [Bool.and_eq_true, ln0 hJ (by omega) (by omega), ln0 hJ (by omega) (by omega), Bool.not_not, Bool.not_not, decide_eq_true_iff, decide_eq_true_iff] at hb
      simp only [fX10_cycle_L1]
      rw [m_of2 (by omega), hq, clp_e, if_neg (nI_ge hg (by omega)), m_length0 (by omega) (by omega), clp_e, m_length1 (by omega) (by omega), clp_e, hb.1, hb.2, if_pos (by decide), bnd_e, nI_1]
    · simp only [fX10_cycle_L1]
      rw [m_of2 (by omega), hq, clp_e, if_pos (nI_le (Nat.le_refl _) (by omega)), bnd_e, nI_1]
  · have hl : nI i < N 1 2 := by rw [hn]; exact nI_lt hi (by omega)
    have hJ := V.2.1 i (by omega) hl
    obtain ⟨q, hq6, hq⟩ := hJ.sz
    have hcl : (N 1 (ix i 2)).toNatClampNeg = q := by rw [hq, nI_clamp (by omega)]
    unfold tk at ht
    rw [hcl] at ht
    simp only [fX10_cycle_L2]
    rw [grd_T ib2, tc2, hn, if_neg (nI_ge hi (by omega)), m_of1 (by omega), clp_e]
    by_cases c2 : N 1 (ix i 1) < p
    · rw [if_neg (by rw [ti_le]; rw [ti_lt] at c2; omega), m_of4 (by omega), clp_e]
      by_cases c3 : N 1 (ix i 4) < 0
      · rw [decide_eq_true c2, decide_eq_true c3, Bool.and_self, Bool.and_true] at ht
        rw [if_pos c3, jn_e]
        obtain ⟨g, g1, g2, g3⟩ := al_F ht
        refine lp_at (fun g => nI g) g (by omega) rfl (fun g' hg k2 => ?_) (fun k2 => ?_)
        · have hb := g3 g' hg
          rw [Bool.and_eq_true, ln0 hJ (by omega) (by omega), ln0 hJ (by omega) (by omega), Bool.not_not, Bool.not_not, decide_eq_true_iff, decide_eq_true_iff] at hb
          simp only [fX10_cycle_L1]
          rw [m_of2 (by omega), hq, clp_e, if_neg (nI_ge (by omega) (by omega)), m_length0 (by omega) (by omega), clp_e, m_length1 (by omega) (by omega), clp_e, hb.1, hb.2, if_pos (by decide), bnd_e, nI_1]
        · simp only [fX10_cycle_L1]
          rw [m_of2 (by omega), hq, clp_e, if_neg (nI_ge g1 (by omega)), m_length0 (by omega) (by omega), clp_e, m_length1 (by omega) (by omega), clp_e, if_neg]
          rw [ln0 hJ (by omega) (by omega), ln0 hJ (by omega) (by omega), Bool.not_not, Bool.not_not] at g2
          have b0 := ((hJ.2.2.2.2.2.2.1 g (by omega)).2.2.2.2.2.2.2.1 0 (by omega)).2.1
          have b1 := ((hJ.2.2.2.2.2.2.1 g (by omega)).2.2.2.2.2.2.2.1 1 (by omega)).2.1
          have hc := V.1.1.2
          have z0 : Int32.toInt 0 = 0 := rfl
          intro z
          rw [ti_le, ti_add (by have := b0.1; have := b1.1; omega) (by have := b0.2; have := b1.2; omega), z0] at z
          have e0 : ln (N 1) i 0 g = 0 := by rw [ti_eq, z0]; have := b0.1; have := b1.1; omega
          have e1 : ln (N 1) i 1 g = 0 := by rw [ti_eq, z0]; have := b0.1; have := b1.1; omega
          rw [e0, e1] at g2
          exact absurd g2 (by decide)
      · rw [if_neg c3]
    · rw [if_pos (by rw [ti_le]; rw [ti_lt] at c2; omega)]
  · intro k
    simp only [fX10_cycle_L2]
    rw [grd_T ib2, tc2, hn, if_pos (nI_le (Nat.le_refl _) (by omega))]
