/-! calls: told, save, restore, undo -/
theorem bits_1 (p : Nat → Bool) (n : Nat) : bits p (n + 1) = bits p n ||| (if p n then 1 <<< (nI n &&& 31) else 0) := rfl
def lit (A : Ar) (j q : Nat) (s : Int32) (ch : Bool) (g : Nat) : Bool := on A j q g s && (!rq A j g || (if s = fs A j q g then wt A j g else (!ch && gv A j g)))
theorem x_lit_lp {M : Mem} {J : Nat} {A : Ar} {j : Nat} (h : RJ M J A j) (v : VJ A j) {n : Nat} (hn : A (ix j 2) = nI n) (h6 : n ≤ 6) {q : Nat} (hq : q < 2) (s : Int32) (ch : Bool) (hc : 0 < (A 0).toInt) : lp (fX2_litSet_L1 J (A 0) M (b01 ch) (nI q) s) FU (0, 0) = some (bits (lit A j q s ch) n) := by
  refine lp_at (fun i => (bits (lit A j q s ch) i, nI i)) n (by omega) rfl (fun i hi k => ?_) (fun k => ?_)
  · simp only [fX2_litSet_L1]
    rw [if_neg (by rw [h.w (by omega), hn]; exact nI_ge hi (by omega)), x_first h hq (by omega), clp_e]
    simp only [x_byRequest h (show i < 6 by omega), x_on h hq (show i < 6 by omega) s hc, x_given h (show i < 6 by omega), x_waiting h v (show i < 6 by omega) (lt_sz hn h6 hi), clp_e, jn_e, bnd_e, b01_ite, nI_1]
    rw [bits_1]
    generalize bits (lit A j q s ch) i = B
    unfold lit
    by_cases e : s = fs A j q i <;> cases ho : on A j q i s <;> cases hr : rq A j i <;> cases hw : wt A j i <;> cases hg : gv A j i <;> cases ch <;> simp [e, ho, hr, hw, hg, b01]
  · simp only [fX2_litSet_L1]
    rw [if_pos (by rw [h.w (by omega), hn]; exact nI_le (Nat.le_refl _) (by omega))]
theorem m_lit_lp {M : Mem} {j : Nat} (hj : j < 4) (v : VJ (M 1) j) {n : Nat} (hn : M 1 (ix j 2) = nI n) (h6 : n ≤ 6) {q : Nat} (hq : q < 2) (s : Int32) (ch : Bool) (hc : 0 < (M 1 0).toInt) : lp (fX10_lights_L1 (nI j) M (b01 ch) (nI q) s) FU (0, 0) = some (bits (lit (M 1) j q s ch) n) := by
  refine lp_at (fun i => (bits (lit (M 1) j q s ch) i, nI i)) n (by omega) rfl (fun i hi k => ?_) (fun k => ?_)
  · simp only [fX10_lights_L1]
    have g6 : i < 6 := by omega
    have r0 : (M 1 (gx j i 2) = 0) = (rq (M 1) j i = false) := by
      rw [rq_val v g6]; cases rq (M 1) j i <;> decide
    have w0 : (M 1 (gx j i 4) < 0) = (wt (M 1) j i = false) := by
      unfold wt; rw [decide_eq_false_iff_not, ti_lt, ti_le]; apply propext; constructor <;> intro <;> omega
    have v0 : (M 1 (gx j i 5) = 1) = (gv (M 1) j i = true) := by unfold gv; rw [decide_eq_true_iff]
    rw [m_of2 hj, hn, clp_e, if_neg (nI_ge hi (by omega))]
    simp only [m_on hj hq g6 s hc, m_g2 hj g6, m_first hj hq g6, m_g4 hj g6, m_g5 hj g6, clp_e, jn_e, bnd_e, b01_ite, nI_1, r0, w0, v0]
    rw [bits_1]
    generalize bits (lit (M 1) j q s ch) i = B
    unfold lit
    by_cases e : s = fs (M 1) j q i <;> cases ho : on (M 1) j q i s <;> cases hr : rq (M 1) j i <;> cases hw : wt (M 1) j i <;> cases hg : gv (M 1) j i <;> cases ch <;> simp [e, ho, hr, hw, hg, b01]
  · simp only [fX10_lights_L1]
    rw [m_of2 hj, hn, clp_e, if_pos (nI_le (Nat.le_refl _) (by omega))]
theorem plan_of {A : Ar} {j : Nat} (v : VJ A j) : ∃ q, q < 2 ∧ A (ix j 3) = nI q := by
  obtain ⟨q, h1, h2⟩ := inb_ex (n := 1) v.2.2.2.1
  exact ⟨q, by omega, h1⟩
theorem one_sub {q : Nat} (h : q < 2) : (1 : Int32) - nI q = nI (1 - q) := nI_sub (a := 1) (b := q) (by omega)
def litS (A : Ar) (j : Nat) (n q : Nat) : Int32 := if A (ix j 4) = A 3 then bits (lit A j (1 - q) (wr (A 3 - A (ix j 1)) (A 0)) true) n else bits (lit A j q (wr (A 3 - A (ix j 1)) (A 0)) false) n
theorem x_litSet {M : Mem} {J : Nat} {A : Ar} {j : Nat} (h : RJ M J A j) (hl : nI j < A 2) (v : VJ A j) {n q : Nat} (hn : A (ix j 2) = nI n) (h6 : n ≤ 6) (hq : q < 2) (hp : A (ix j 3) = nI q) (hc : 0 < (A 0).toInt) : fX2_litSet M J (A 3) (A 0) = some (litS A j n q) := by
  unfold fX2_litSet litS
  simp only [jn_e, h.ch hl, x_local h (A 3) hc, clp_e, h.w (show 3 < 4 by omega), hp, one_sub hq]
  by_cases e : A (ix j 4) = A 3
  · rw [if_pos e, if_pos e, if_neg (by decide)]
    exact x_lit_lp h v hn h6 (by omega) _ true hc
  · rw [if_neg e, if_neg e, if_pos trivial]
    exact x_lit_lp h v hn h6 hq _ false hc
theorem m_lights {M : Mem} {j : Nat} (hj : j < 4) (v : VJ (M 1) j) {n q : Nat} (hn : M 1 (ix j 2) = nI n) (h6 : n ≤ 6) (hq : q < 2) (hp : M 1 (ix j 3) = nI q) (hc : 0 < (M 1 0).toInt) : fX10_lights M (nI j) = some (litS (M 1) j n q) := by
  unfold fX10_lights litS
  simp only [m_of4 hj, m_of3 hj, grd_T ib3, tc3, jn_e, m_local hj (M 1 3) hc, clp_e, hp, one_sub hq]
  by_cases e : M 1 (ix j 4) = M 1 3
  · rw [if_pos e, if_pos e, if_neg (by decide)]
    exact m_lit_lp hj v hn h6 (by omega) _ true hc
  · rw [if_neg e, if_neg e, if_pos trivial]
    exact m_lit_lp hj v hn h6 hq _ false hc
section O7
variable {Mx Mm : Mem}
theorem st_told (I : Inv Mx Mm) (p q : Int32) : ∃ rx vm Mm', fX9_told Mx p q = some rx ∧ fX10_told Mm p q = some (vm, Mm') ∧ Agr [0, 1] rx vm Mm' ∧ Inv Mx Mm' := by
  have I0 := I.th 0
  obtain ⟨N, hN⟩ : ∃ z, z = mset Mm 0 0 0 := ⟨_, rfl⟩
  rw [← hN] at I0
  obtain ⟨hR, hV, hH, hT⟩ := id I0
  have h00 : N 0 0 = 0 := by rw [hN, ms_at, if_pos ⟨rfl, rfl⟩]
  have hc := hV.c0
  unfold fX9_told fX10_told
  simp only [bnd_e, ← hN]
  by_cases hj : inJ (N 1) p = true
  · obtain ⟨j, rfl, hj4, hl⟩ := inJ_ex hV hj
    have hJ := hV.2.1 j hj4 hl
    obtain ⟨n, hn6, hn⟩ := hJ.sz
    obtain ⟨r, hr2, hr⟩ := plan_of hJ
    rw [x_found hR hV hj4 hl, clpx_r, grd_T (jb hj4), m_ij, hj, clp_e, b01_ite, if_pos rfl, (hR.j hj4).w (show 0 < 4 by omega), (hR.j hj4).w (show 1 < 4 by omega), (hR.j hj4).w (show 2 < 4 by omega), (hR.j hj4).w (show 3 < 4 by omega), (hR.j hj4).ch hl, hR.w2, hR.w0, x_local (hR.j hj4) _ hc, clp_e, x_conflictCount (hR.j hj4) hl hJ hn hn6, clp_e, x_litSet (hR.j hj4) hl hJ hn hn6 hr2 hr hc, clp_e, grd_T ib3, tc3, m_local hj4 _ hc, clp_e, m_of3 hj4, clp_e, m_of4 hj4, clp_e, m_conflicts hj4 hn hn6, clp_e, m_lights hj4 hJ hn hn6 hr2 hr hc, clp_e]
    by_cases c0 : q = 0
    · subst c0
      rw [if_pos rfl, if_pos rfl, m_of0 hj4, clp_e]
      exact ⟨_, _, _, rfl, rfl, ⟨h00, rfl⟩, I0⟩
    · rw [if_neg c0, if_neg c0]
      by_cases c1 : q = 1
      · subst c1
        rw [if_pos rfl, if_pos rfl, m_of1 hj4, clp_e]
        exact ⟨_, _, _, rfl, rfl, ⟨h00, rfl⟩, I0⟩
      · rw [if_neg c1, if_neg c1]
        by_cases c2 : q = 2
        · subst c2
          rw [if_pos rfl, if_pos rfl, m_of2 hj4, clp_e]
          exact ⟨_, _, _, rfl, rfl, ⟨h00, rfl⟩, I0⟩
        · rw [if_neg c2, if_neg c2]
          by_cases c3 : q = 3
          · rw [if_pos c3, if_pos c3]
            exact ⟨_, _, _, rfl, rfl, ⟨h00, rfl⟩, I0⟩
          · rw [if_neg c3, if_neg c3]
            by_cases c4 : q = 4
            · rw [if_pos c4, if_pos c4]
              exact ⟨_, _, _, rfl, rfl, ⟨h00, rfl⟩, I0⟩
            · rw [if_neg c4, if_neg c4]
              by_cases c5 : q = 5
              · rw [if_pos c5, if_pos c5]
                exact ⟨_, _, _, rfl, rfl, ⟨h00, rfl⟩, I0⟩
              · rw [if_neg c5, if_neg c5]
                by_cases c6 : q = 6
                · rw [if_pos c6, if_pos c6]
                  exact ⟨_, _, _, rfl, rfl, ⟨h00, rfl⟩, I0⟩
                · rw [if_neg c6, if_neg c6]
                  by_cases c7 : q = 7
                  · rw [if_pos c7, if_pos c7]
                    exact ⟨_, _, _, rfl, rfl, ⟨h00, rfl⟩, I0⟩
                  · rw [if_neg c7, if_neg c7, m_raises, cl_e]
                    exact ⟨_, _, _, rfl, rfl, fin_x I0 1 rfl _ _ rfl⟩
  · have hj' := Bool.not_eq_true _ |>.mp hj
    rw [x_found_no hR hj', clpx_l, m_ij, hj', clp_e, b01_ite, if_neg (by decide), m_raises, cl_e]
    exact ⟨_, _, _, rfl, rfl, fin_x I0 0 rfl _ _ rfl⟩
theorem st_save (I : Inv Mx Mm) : ∃ v Mx' Mm', fX9_save Mx = some (v, Mx') ∧ fX10_save Mm = some (v, Mm') ∧ Inv Mx' Mm' := by
  obtain ⟨hR, hV, hH, hT⟩ := I
  obtain ⟨M2, a1, a2, a3⟩ := x_copyRS (M := Mx) (t := 85) (t0 := 1) (A := Mm 1) (by omega) hR
  obtain ⟨N0, hN0⟩ : ∃ z, z = mset (mset Mm 0 0 0) 0 5 1 := ⟨_, rfl⟩
  have main := lp_inv (f := fX10_save_L1 (fun a3 => grd (inb 2 490) (some (a3 1 (2 : Int32).toNatClampNeg, a3)))) (fun i (s : Int32 × Mem) => s.1 = nI i ∧ Cpd N0 s.2 3 1 i) (fun r => ∃ M', r = some (N0 1 2, M') ∧ Cpd N0 M' 3 1 490) 490 (by omega) (fun i hi s hs => Or.inl (by
      obtain ⟨x, K⟩ := s
      obtain ⟨rfl, hc⟩ := hs
      refine ⟨(nI (i + 1), mset K 3 i (K 1 i)), ⟨rfl, hc.step (by omega)⟩, fun k => ?_⟩
      simp only [fX10_save_L1]
      rw [if_neg (show ¬ (490 : Int32) ≤ nI i from nI_ge (b := 490) hi (by omega)), grd_T (inb_nI hi (by omega)), grd_T (inb_nI hi (by omega)), nI_clamp (by omega)]
      simp only [bnd_e, nI_1])) (fun s hs => by
      obtain ⟨x, K⟩ := s
      obtain ⟨rfl, hc⟩ := hs
      refine ⟨some (N0 1 2, K), ⟨K, rfl, hc⟩, fun k => ?_⟩
      simp only [fX10_save_L1]
      rw [if_pos (show (490 : Int32) ≤ nI 490 from nI_le (a := 490) (b := 490) (by omega) (by omega)), grd_T ib2, tc2]
      rw [show K 1 = N0 1 from hc.1 1 (by omega)]) (0, N0) ⟨rfl, fun _ _ => rfl, fun k hk => absurd hk (by omega), fun _ _ => rfl⟩
  obtain ⟨K, b1, b2, b3, b4⟩ := main
  have n1 : N0 1 = Mm 1 := by rw [hN0, ms_other _ _ _ (by omega), ms_other _ _ _ (by omega)]
  unfold fX9_save fX10_save
  rw [a1, cl_e, bnd_e, bnd_e, bnd_e, jn_e, ← hN0, b1]
  have nk : ∀ k, k ≠ 0 → k ≠ 5 → N0 0 k = Mm 0 k := fun k h0 h5 => by rw [hN0, ms_at, if_neg (by omega), ms_at, if_neg (by omega)]
  have no : ∀ r, r ≠ 0 → N0 r = Mm r := fun r h0 => by rw [hN0, ms_other _ _ _ h0, ms_other _ _ _ h0]
  have k1 : K 1 = Mm 1 := (b2 1 (by omega)).trans n1
  refine ⟨_, _, K, rfl, ?_, ?_, ?_, ?_, ?_⟩
  · rw [ms_other _ _ _ (by omega), a2 1 (by omega), hR.w3, n1]
  · rw [k1]; exact RS_frame (fun o h1 h2 => by rw [ms_other _ _ _ (by omega), a2 o (by omega)]) hR
  · rw [k1]; exact hV
  · refine HR_frame (fun o h1 h2 => by rw [ms_other _ _ _ (by omega), a2 o (by omega)]) ?_ ?_ hH
    · rw [b2 2 (by omega), no 2 (by omega)]
    · rw [b2 0 (by omega), nk 3 (by omega) (by omega)]
  · obtain ⟨⟨s1, s2⟩, ⟨l, t1, t2, t3, t4⟩, ⟨q, u1, u2, u3, u4⟩, w1, w2, w3, w4⟩ := hT
    have x0 : ∀ k, k ≠ 8 → mset M2 0 8 1 0 k = Mx 0 k := fun k hk => by rw [ms_at, if_neg (by omega), a2 0 (by omega)]
    have xo : ∀ o, 127 ≤ o → mset M2 0 8 1 o = Mx o := fun o ho => by rw [ms_other _ _ _ (by omega), a2 o (by omega)]
    have m0 : ∀ k, k ≠ 0 → k ≠ 5 → K 0 k = Mm 0 k := fun k h0 h5 => by rw [b2 0 (by omega)]; exact nk k h0 h5
    have mo : ∀ r, r ≠ 0 → r ≠ 3 → K r = Mm r := fun r h0 h3 => (b2 r h3).trans (no r h0)
    have m5 : K 0 5 = 1 := by rw [b2 0 (by omega), hN0, ms_at, if_pos ⟨rfl, rfl⟩]
    have s3 : ∀ k, k < 490 → K 3 k = Mm 1 k := fun k hk => by rw [b3 k hk, n1]
    exact ⟨⟨by rw [ms_at, if_pos ⟨rfl, rfl⟩, m5], Or.inr ⟨m5, RS_cong s3 (RS_frame (fun o h1 h2 => ms_other _ _ _ (by omega)) a3), Val_cong s3 hV⟩⟩, ⟨l, t1, by rw [xo 472 (by omega)]; exact t2, by rw [m0 8 (by omega) (by omega)]; exact t3, fun k hk => by rw [xo 473 (by omega), mo 5 (by omega) (by omega)]; exact t4 k hk⟩, ⟨q, u1, by rw [xo 477 (by omega)]; exact u2, by rw [m0 13 (by omega) (by omega)]; exact u3, fun k hk => by rw [xo 478 (by omega), mo 6 (by omega) (by omega)]; exact u4 k hk⟩, by rw [x0 9 (by omega), m0 11 (by omega) (by omega)]; exact w1, by rw [x0 10 (by omega), m0 10 (by omega) (by omega)]; exact w2, by rw [m0 11 (by omega) (by omega)]; exact w3, by rw [m0 10 (by omega) (by omega)]; exact w4⟩
end O7
