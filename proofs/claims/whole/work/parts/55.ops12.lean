/-! calls: soonest, change -/
section MC
variable {M : Mem} {j : Nat}
/-- the second of the time's future, both ways -/
theorem sec_now {A : Ar} (V : Val A) {j d : Nat} (hj : j < 4) (hl : nI j < A 2) (hd : d < 121) : wr (A 3 + nI d - A (ix j 1)) (A 0) = sec A j d := by
  have hc := V.1.1
  have hc0 := V.c0
  have ht := V.1.2.2.2.1
  have ho := (V.2.1 j hj hl).2.1
  have w1 := wr_lo (x := A 3 - A (ix j 1)) hc0
  have w2 := wr_hi (x := A 3 - A (ix j 1)) hc0
  have h1 := ht.1
  have h2 := ht.2
  have h3 := ho.1
  have h4 := ho.2
  have h5 := hc.2
  have e1 : (A 3 + nI d).toInt = (A 3).toInt + d := by rw [ti_add (by rw [nI_toInt (by omega)]; omega) (by rw [nI_toInt (by omega)]; omega), nI_toInt (by omega)]
  have e2 : (A 3 + nI d - A (ix j 1)).toInt = (A 3).toInt + d - (A (ix j 1)).toInt := by rw [ti_sub (by rw [e1]; omega) (by rw [e1]; omega), e1]
  have e3 : (A 3 - A (ix j 1)).toInt = (A 3).toInt - (A (ix j 1)).toInt := ti_sub (by omega) (by omega)
  have e4 : (wr (A 3 - A (ix j 1)) (A 0) + nI d).toInt = (wr (A 3 - A (ix j 1)) (A 0)).toInt + d := by rw [ti_add (by rw [nI_toInt (by omega)]; omega) (by rw [nI_toInt (by omega)]; omega), nI_toInt (by omega)]
  unfold sec
  refine wr_eq ?_
  rw [e2, e4, wr_ti hc0, e3, em_add]
  congr 1; omega
theorem sec_bt {A : Ar} (V : Val A) (j d : Nat) : bt (sec A j d) 0 ((A 0).toInt - 1) := ⟨wr_lo V.c0, by have := wr_hi (x := wr (A 3 - A (ix j 1)) (A 0) + nI d) V.c0; unfold sec; omega⟩
theorem wr_wr {A : Ar} (V : Val A) {x y : Int32} (hx : -1000000 ≤ x.toInt ∧ x.toInt ≤ 1000000) (hy : bt y (-1000) 1000) : wr (wr x (A 0) - y) (A 0) = wr (x - y) (A 0) := by
  have hc := V.1.1
  have hc0 := V.c0
  have w1 := wr_lo (x := x) hc0
  have w2 := wr_hi (x := x) hc0
  have h1 := hy.1
  have h2 := hy.2
  have h5 := hc.2
  refine wr_eq ?_
  rw [ti_sub (by omega) (by omega), ti_sub (by omega) (by omega), wr_ti hc0, Int.sub_eq_add_neg, em_add, ← Int.sub_eq_add_neg]
theorem m_may (V : Val (M 1)) (hj : j < 4) (hl : nI j < M 1 2) {n q : Nat} (hn : M 1 (ix j 2) = nI n) (h6 : n ≤ 6) (hq : q < 2) (hp : M 1 (ix j 3) = nI q) {d : Nat} (hd : d < 121) : fX10_mayChange M (nI j) (nI d) = some (b01 (okc (M 1) j q n (sec (M 1) j d))) := by
  have hc0 := V.c0
  have hJ := V.2.1 j hj hl
  have ht := V.1.2.2.2.1
  have ho := hJ.2.1
  have hcc := V.1.1
  have t1 := ht.1
  have t2 := ht.2
  have o1 := ho.1
  have o2 := ho.2
  have c2 := hcc.2
  have e1 : (M 1 3 + nI d).toInt = (M 1 3).toInt + d := by rw [ti_add (by rw [nI_toInt (by omega)]; omega) (by rw [nI_toInt (by omega)]; omega), nI_toInt (by omega)]
  have z1 : Int32.toInt 1 = 1 := rfl
  have e2 : (M 1 3 + nI d - 1).toInt = (M 1 3).toInt + d - 1 := by rw [ti_sub (by rw [e1, z1]; omega) (by rw [e1, z1]; omega), e1, z1]
  have hF : ∀ g r, g < 6 → r < 2 → bt (fs (M 1) j r g) (-1000) 1000 := fun g r hg hr => by
    have := ((hJ.2.2.2.2.2.2.1 g hg).2.2.2.2.2.2.2.1 r hr).1
    exact ⟨by have := this.1; omega, by have := this.2; omega⟩
  -- the second before
  have sb : ∀ a, a < 6 → wr (wr (M 1 3 + nI d - 1 - M 1 (ix j 1)) (M 1 0) - fs (M 1) j q a) (M 1 0) = wr (sec (M 1) j d - 1 - fs (M 1) j q a) (M 1 0) := fun a ha => by
    have f1 := (hF a q ha hq).1
    have f2 := (hF a q ha hq).2
    have f0 := (((hJ.2.2.2.2.2.2.1 a ha).2.2.2.2.2.2.2.1 q hq).1).1
    have s1 := (sec_bt V j d).1
    have s2 := (sec_bt V j d).2
    have a1 : (M 1 3 + nI d - 1 - M 1 (ix j 1)).toInt = (M 1 3).toInt + d - 1 - (M 1 (ix j 1)).toInt := by rw [ti_sub (by rw [e2]; omega) (by rw [e2]; omega), e2]
    rw [wr_wr V (by rw [a1]; omega) (hF a q ha hq)]
    refine wr_eq ?_
    have a2 : (sec (M 1) j d - 1).toInt = (sec (M 1) j d).toInt - 1 := by rw [ti_sub (by rw [z1]; omega) (by rw [z1]; omega), z1]
    rw [ti_sub (by rw [a1]; omega) (by rw [a1]; omega), a1, ti_sub (by rw [a2]; omega) (by rw [a2]; omega), a2, ← sec_now V hj hl hd, wr_ti hc0]
    have a3 : (M 1 3 + nI d - M 1 (ix j 1)).toInt = (M 1 3).toInt + d - (M 1 (ix j 1)).toInt := by rw [ti_sub (by rw [e1]; omega) (by rw [e1]; omega), e1]
    have key : (((M 1 3).toInt + d - (M 1 (ix j 1)).toInt) % (M 1 0).toInt - 1 - (fs (M 1) j q a).toInt) % (M 1 0).toInt = ((M 1 3).toInt + d - (M 1 (ix j 1)).toInt + (-1 - (fs (M 1) j q a).toInt)) % (M 1 0).toInt := by
      rw [← em_add]; congr 1; omega
    rw [a3, key]
    congr 1; omega
  unfold fX10_mayChange
  rw [grd_T ib3, tc3, bnd_e, m_of3 hj, clp_e, hp]
  have inner : ∀ a, a < n → gr (M 1) j q a = true → ∀ k8 : Unit → Option Int32, lp (fX10_mayChange_L1 (nI j) M (M 1 3 + nI d) (nI q) (nI a) k8 (so (M 1) j q a (sec (M 1) j d))) FU 0 = if al (fun b => !bk (M 1) j q (sec (M 1) j d) a b) n = true then k8 () else some 0 := fun a ha hga k8 => by
    have stp : ∀ b, b < n → ∀ k : Int32 → Option Int32, fX10_mayChange_L1 (nI j) M (M 1 3 + nI d) (nI q) (nI a) k8 (so (M 1) j q a (sec (M 1) j d)) k (nI b) = if bk (M 1) j q (sec (M 1) j d) a b = true then some 0 else k (nI (b + 1)) := fun b hb k => by
      simp only [fX10_mayChange_L1]
      rw [m_of2 hj, hn, clp_e, if_neg (nI_ge hb (by omega)), m_clear hj (by omega) (by omega), clp_e, jn_e, cf_neg, one_sub hq, m_length hj (by omega) (by omega), clp_e, m_local hj _ hc0, clp_e, sec_now V hj hl hd, m_first hj (by omega) (by omega), clp_e, m_mod _ hc0, clp_e, clp_e, jn_e, grd_T ib0, tc0]
      simp only [clp_e, not01, bnd_e, nI_1]
      unfold bk
      rw [hga, Bool.true_and, ln0 hJ (p := 1 - q) (by omega) (show b < 6 by omega)]
      by_cases h1 : cf (M 1) j a b = true
      · rw [if_pos h1, h1, Bool.true_and]
        by_cases h2 : ln (M 1) j (1 - q) b = 0
        · rw [if_pos h2, decide_eq_true h2, if_neg (by simp)]
        · rw [if_neg h2, decide_eq_false h2, Bool.not_false, Bool.true_and]
          have hu : (if wr (sec (M 1) j d - fs (M 1) j (1 - q) b) (M 1 0) < ln (M 1) j (1 - q) b then (0 : Int32) else M 1 0 - wr (sec (M 1) j d - fs (M 1) j (1 - q) b) (M 1 0)) = uo (M 1) j (1 - q) b (sec (M 1) j d) := rfl
          by_cases h3 : wr (sec (M 1) j d - fs (M 1) j (1 - q) b) (M 1 0) < ln (M 1) j (1 - q) b
          · rw [if_pos h3] at hu
            rw [if_pos h3, ← hu]
            by_cases h4 : so (M 1) j q a (sec (M 1) j d) + 0 < kl (M 1) j a b
            · rw [if_pos h4, if_pos (decide_eq_true h4)]
            · rw [if_neg h4, if_neg (by rw [decide_eq_false h4]; decide)]
          · rw [if_neg h3] at hu
            rw [if_neg h3, ← hu]
            by_cases h4 : so (M 1) j q a (sec (M 1) j d) + (M 1 0 - wr (sec (M 1) j d - fs (M 1) j (1 - q) b) (M 1 0)) < kl (M 1) j a b
            · rw [if_pos h4, if_pos (decide_eq_true h4)]
            · rw [if_neg h4, if_neg (by rw [decide_eq_false h4]; decide)]
      · rw [if_neg h1, Bool.not_eq_true _ |>.mp h1, if_neg (by simp)]
    refine lp_fst (fun i => nI i) (fun b => !bk (M 1) j q (sec (M 1) j d) a b) (rf := fun _ => some 0) n (by omega) rfl (fun i hi ht k => by
        rw [stp i hi k, if_neg (by intro z; rw [z] at ht; cases ht)]) (fun i hi ht k => by
        rw [stp i hi k, if_pos (by revert ht; cases bk (M 1) j q (sec (M 1) j d) a i <;> simp)]) (fun k => by
        simp only [fX10_mayChange_L1]
        rw [m_of2 hj, hn, clp_e, if_pos (nI_le (Nat.le_refl _) (by omega))])
  have stp : ∀ a, a < n → ∀ k : Int32 → Option Int32, fX10_mayChange_L2 (nI j) M (M 1 3 + nI d) (nI q) k (nI a) = if al (fun b => !bk (M 1) j q (sec (M 1) j d) a b) n = true then k (nI (a + 1)) else some 0 := fun a ha k => by
    simp only [fX10_mayChange_L2]
    rw [m_of2 hj, hn, clp_e, if_neg (nI_ge ha (by omega)), m_length hj hq (by omega), clp_e, jn_e, m_local hj _ hc0, clp_e, m_first hj hq (by omega), clp_e, m_mod _ hc0, clp_e, sb a (by omega), clp_e, jn_e, clp_e, not01]
    by_cases hz : ln (M 1) j q a = 0
    · have hg : gr (M 1) j q a = false := by rw [ln0 hJ hq (by omega), decide_eq_true hz]; rfl
      have : al (fun b => !bk (M 1) j q (sec (M 1) j d) a b) n = true := al_T.mpr (fun b hb => by
        unfold bk; rw [hg, Bool.false_and, Bool.and_false, Bool.false_and]; rfl)
      rw [if_pos hz, if_pos this, bnd_e, nI_1]
    · have hg : gr (M 1) j q a = true := by rw [ln0 hJ hq (by omega), decide_eq_false hz]; rfl
      have hs : (if wr (sec (M 1) j d - 1 - fs (M 1) j q a) (M 1 0) < ln (M 1) j q a then (0 : Int32) else wr (sec (M 1) j d - 1 - fs (M 1) j q a) (M 1 0) - ln (M 1) j q a + 1) = so (M 1) j q a (sec (M 1) j d) := rfl
      rw [if_neg hz]
      by_cases h3 : wr (sec (M 1) j d - 1 - fs (M 1) j q a) (M 1 0) < ln (M 1) j q a
      · rw [if_pos h3] at hs
        have hi := inner a ha hg (fun _ => bnd (nI a + 1) fun x9 => k x9)
        rw [← hs] at hi
        rw [if_pos h3]
        dsimp only
        rw [hi]
        simp only [bnd_e, nI_1]
      · rw [if_neg h3] at hs
        have hi := inner a ha hg (fun _ => bnd (nI a + 1) fun x9 => k x9)
        rw [← hs] at hi
        rw [if_neg h3]
        dsimp only
        rw [hi]
        simp only [bnd_e, nI_1]
  have main := lp_fst (f := fX10_mayChange_L2 (nI j) M (M 1 3 + nI d) (nI q)) (s0 := (0 : Int32)) (fun i => nI i) (fun a => al (fun b => !bk (M 1) j q (sec (M 1) j d) a b) n) (rt := some (1 : Int32)) (rf := fun _ => some (0 : Int32)) n (by omega) rfl (fun i hi ht k => by rw [stp i hi k, if_pos ht]) (fun i hi ht k => by rw [stp i hi k, if_neg (by rw [ht]; decide)]) (fun k => by
    simp only [fX10_mayChange_L2]
    rw [m_of2 hj, hn, clp_e, if_pos (nI_le (Nat.le_refl _) (by omega))])
  rw [main]
  unfold okc
  cases al (fun a => al (fun b => !bk (M 1) j q (sec (M 1) j d) a b) n) n <;> rfl
theorem m_soon (V : Val (M 1)) (hj : j < 4) (hl : nI j < M 1 2) {n q c : Nat} (hn : M 1 (ix j 2) = nI n) (h6 : n ≤ 6) (hq : q < 2) (hp : M 1 (ix j 3) = nI q) (hcn : M 1 0 = nI c) (hc120 : c ≤ 120) : fX10_soon M (nI j) = some (scv (M 1) j q n c) := by
  unfold fX10_soon
  have main := lp_fst (f := fX10_soon_L1 (nI j) M) (s0 := (0 : Int32)) (fun i => nI i) (fun d => !okc (M 1) j q n (sec (M 1) j d)) (rt := some (-1 : Int32)) (rf := fun d => some (nI d)) c (by omega) rfl (fun i hi ht k => by
      simp only [fX10_soon_L1]
      rw [grd_T ib0, tc0, hcn, if_neg (nI_ge hi (by omega)), m_may V hj hl hn h6 hq hp (by omega), clp_e, b01_ite, if_neg (by intro z; rw [z] at ht; cases ht), bnd_e, nI_1]) (fun i hi ht k => by
      simp only [fX10_soon_L1]
      rw [grd_T ib0, tc0, hcn, if_neg (nI_ge hi (by omega)), m_may V hj hl hn h6 hq hp (by omega), clp_e, b01_ite, if_pos (by revert ht; cases okc (M 1) j q n (sec (M 1) j i) <;> simp)]) (fun k => by
      simp only [fX10_soon_L1]
      rw [grd_T ib0, tc0, hcn, if_pos (nI_le (Nat.le_refl _) (by omega))])
  rw [main]
  unfold scv
  split <;> rfl
end MC
theorem scv_cases {A : Ar} {j q n c : Nat} (hc : c ≤ 120) : scv A j q n c = -1 ∨ ∃ d, d < c ∧ scv A j q n c = nI d := by
  unfold scv
  by_cases h : al (fun d => !okc A j q n (sec A j d)) c = true
  · rw [if_pos h]; exact Or.inl rfl
  · rw [if_neg h]; exact Or.inr ⟨_, fstF_lt h, rfl⟩
theorem Val.cn {A : Ar} (V : Val A) : ∃ c, c ≤ 120 ∧ A 0 = nI c := by
  obtain ⟨c, h1, h2, h3⟩ := bt_nI (x := A 0) (hi := 120) ⟨by have := V.1.1.1; omega, V.1.1.2⟩
  exact ⟨c, by omega, h1⟩
section O12
variable {Mx Mm : Mem}
theorem st_soonest (I : Inv Mx Mm) (p : Int32) : ∃ rx vm Mm', fX9_soonest Mx p = some rx ∧ fX10_soonest Mm p = some (vm, Mm') ∧ Agr [0, 4] rx vm Mm' ∧ Inv Mx Mm' := by
  have I0 := I.th 0
  obtain ⟨N, hN⟩ : ∃ z, z = mset Mm 0 0 0 := ⟨_, rfl⟩
  rw [← hN] at I0
  obtain ⟨hR, hV, hH, hT⟩ := id I0
  have h00 : N 0 0 = 0 := by rw [hN, ms_at, if_pos ⟨rfl, rfl⟩]
  unfold fX9_soonest fX10_soonest
  simp only [bnd_e, ← hN, jn_e]
  by_cases hj : inJ (N 1) p = true
  · obtain ⟨j, rfl, hj4, hl⟩ := inJ_ex hV hj
    have hJ := hV.2.1 j hj4 hl
    obtain ⟨n, hn6, hn⟩ := hJ.sz
    obtain ⟨q, hq2, hq⟩ := plan_of hJ
    obtain ⟨c, hc120, hcn⟩ := hV.cn
    rw [x_found hR hV hj4 hl, clpx_r, grd_T (jb hj4), hR.w2, hR.w0, x_toChange (hR.j hj4) hl hJ hn hn6 hq2 hq hV.1.1 hcn hc120, clp_e, m_ij, hj, clp_e, b01_ite, if_pos rfl, m_soon hV hj4 hl hn hn6 hq2 hq hcn hc120, clp_e]
    rcases scv_cases (A := N 1) (j := j) (q := q) (n := n) hc120 with h | ⟨d, hd, h⟩
    · rw [h, if_pos rfl, need_5', clpx_l, if_neg (by decide), m_raises, cl_e]
      exact ⟨_, _, _, rfl, rfl, fin_x I0 1 rfl _ _ rfl⟩
    · have hd0 : ¬ nI d = -1 := by
        rw [ti_eq, nI_toInt (by omega)]
        have : Int32.toInt (-1) = -1 := by decide
        omega
      rw [h, if_neg hd0, need_T', clpx_r, if_pos (nI_pos' (by omega))]
      exact ⟨_, _, _, rfl, rfl, ⟨h00, rfl⟩, I0⟩
  · have hj' := Bool.not_eq_true _ |>.mp hj
    rw [x_found_no hR hj', clpx_l, m_ij, hj', clp_e, b01_ite, if_neg (by decide), m_raises, cl_e]
    exact ⟨_, _, _, rfl, rfl, fin_x I0 0 rfl _ _ rfl⟩
theorem cmd_change {N : Mem} (V : Val (N 1)) (p : Int32) : CmdOk N [0, 2, 4] (liftF (fun M => fX9_changeFault M p)) (fun M => fX9_planChange M p) (fX10_plans N p) := by
  unfold fX10_plans
  rw [m_ij, clp_e, b01_ite]
  by_cases hj : inJ (N 1) p = true
  · obtain ⟨j, rfl, hj4, hl⟩ := inJ_ex V hj
    have hJ := V.2.1 j hj4 hl
    obtain ⟨n, hn6, hn⟩ := hJ.sz
    obtain ⟨q, hq2, hq⟩ := plan_of hJ
    obtain ⟨c, hc120, hcn⟩ := V.cn
    have pre : ∀ Mx, RS Mx 1 (N 1) → fX9_changeFault Mx (nI j) = if decide (0 ≤ N 1 (ix j 4)) = true then some 3 else (if scv (N 1) j q n c = -1 then some 5 else some 0) := fun Mx hR => by
      unfold fX9_changeFault
      rw [x_find hR V hj4 hl, clpn_s, grd_T (jb hj4), x_planned (hR.j hj4) hl hJ, clp_e, b01_ite, hR.w2, hR.w0, x_toChange (hR.j hj4) hl hJ hn hn6 hq2 hq V.1.1 hcn hc120, clp_e, jn_e]
    rw [if_pos hj, m_of4 hj4, clp_e]
    by_cases hch : N 1 (ix j 4) < 0
    · have hch' : ¬ decide (0 ≤ N 1 (ix j 4)) = true := by rw [decide_eq_true_iff, ti_le]; rw [ti_lt] at hch; omega
      have e21 : ∀ x : Int32, mset N 0 21 x 0 21 = x := fun x => by rw [ms_at, if_pos ⟨rfl, rfl⟩]
      rw [if_pos hch, m_soon V hj4 hl hn hn6 hq2 hq hcn hc120, clp_e, bnd_e, e21]
      rcases scv_cases (A := N 1) (j := j) (q := q) (n := n) hc120 with h | ⟨d, hd, h⟩
      · rw [h, if_neg (by decide)]
        refine Or.inl ⟨5, 2, 4, _, by decide, fun _ => raise_5, rfl, by omega, rfl, MFw.set0 (MFw.rf N) (by omega), fun z => by rw [ms_at, if_neg (by omega)]; exact z, fun Mx hR h9 => ⟨Mx, liftF_e ?_, fun _ _ => rfl, fun _ _ => rfl, by rw [ms_at, if_neg (by omega)]; exact h9⟩⟩
        rw [pre Mx hR, if_neg hch', if_pos h]
      · have hd0 : ¬ nI d = -1 := by
          rw [ti_eq, nI_toInt (by omega)]
          have : Int32.toInt (-1) = -1 := by decide
          omega
        rw [h, if_pos (nI_pos' (by omega))]
        unfold fX10_at
        rw [clp_e, grd_T ib3, show (6 : Int32) + 121 * nI j + 4 = nI (ix j 4) from at_ix j 4, grd_T (ib 490 (by unfold ix; omega) (by omega)), nI_clamp (by unfold ix; omega), tc3, bnd_e, ms_other _ _ _ (by omega)]
        have tt := V.1.2.2.2.1
        have t1 := tt.1
        have t2 := tt.2
        have et : (N 1 3 + nI d).toInt = (N 1 3).toInt + d := by rw [ti_add (by rw [nI_toInt (by omega)]; omega) (by rw [nI_toInt (by omega)]; omega), nI_toInt (by omega)]
        refine Or.inr ⟨nI d, _, rfl, by rw [ms_other _ _ _ (by omega), ms_at, if_pos ⟨rfl, rfl⟩], MFw.set1 (MFw.set0 (MFw.rf N) (by omega)), by rw [ms_other _ _ _ (by omega), ms_at, if_neg (by omega)], ?_, fun Mx hR => ⟨liftF_e (by rw [pre Mx hR, if_neg hch', h, if_neg hd0]), mset Mx (1 + 2 + 10 * j) 4 (N 1 3 + nI d), ?_, XF.set (XF.rf Mx) (by omega), ?_⟩⟩
        · rw [ms_same, ms_other _ _ _ (by omega)]
          exact Val_lift V hj4 hl (fun k hk => pk_un (by unfold ix at hk ⊢; omega)) (pk_un (by unfold ix; omega)) (V_ix (by omega) hJ (by omega) (by omega) (fun _ => by unfold bt; rw [et]; omega) (by omega))
        · show fX9_planChange Mx (nI j) = _
          unfold fX9_planChange
          rw [x_found hR V hj4 hl, clpm_r, grd_T (jb hj4), hR.w2, hR.w0, x_toChange (hR.j hj4) hl hJ hn hn6 hq2 hq V.1.1 hcn hc120, clp_e, bnd_e, h]
        · rw [ms_same, ms_other _ _ _ (by omega)]
          exact RS_lift hR hj4 (fun o _ _ ho => ms_other _ _ _ (by omega)) (by rw [ms_at, if_neg (by omega)]) (by rw [ms_at, if_neg (by omega)]) (fun k hk => pk_un (by unfold ix at hk ⊢; omega)) (u_ch hl _ (hR.j hj4))
    · rw [if_neg hch]
      refine Or.inl (bad_pure 3 1 2 (by decide) (fun _ => raise_3) rfl (by omega) rfl (fun Mx hR => ?_))
      rw [pre Mx hR, if_pos (by rw [decide_eq_true_iff, ti_le]; rw [ti_lt] at hch; omega)]
  · rw [if_neg hj]
    refine Or.inl (bad_pure 1 0 0 (by decide) (fun _ => raise_1) rfl (by omega) rfl (fun Mx hR => ?_))
    show fX9_changeFault Mx p = some 1
    unfold fX9_changeFault
    rw [x_find_no hR (Bool.not_eq_true _ |>.mp hj), clpn_n]
theorem st_change (I : Inv Mx Mm) (p : Int32) : ∃ rx Mx' vm Mm', fX9_change Mx p = some (rx, Mx') ∧ fX10_change Mm p = some (vm, Mm') ∧ Agr [0, 2, 4] rx vm Mm' ∧ Inv Mx' Mm' := by
  have h := cmd_op I (fun N V => cmd_change (N := N) V p)
  rw [← liftF_cl (fun M => fX9_changeFault M p) Mx (fun x1 M2 => clpm M2 (fX9_raise M2 x1) (fun _ => cl (fX1_push M2 1) (fun _ M5 => clx (fX9_planChange M5 p) (fun x6 M7 => some (.inr x6, M7)))))] at h
  exact h
end O12
