/-! call: picture : the reference, the call -/
section P72
variable {N : Mem} {j q c : Nat} {v : Nat → Nat}
theorem m_pic_in (hv : ∀ s, v s < 64) (hc : c ≤ 120) {i : Nat} (hi : i < c) (k15 : Int32 → Option (Int32 × Mem)) : ∃ k : Nat, (vnw v i = true → k = cn (vnw v) i) ∧ (¬ vnw v i = true → k < cn (vnw v) i) ∧ lp (fX10_picture_L1 (nI (cn (vnw v) i), nI i, rmm v N i) (rmm v N (i + 1)) k15) FU 0 = k15 (nI k) := by
  have hn := cn_le (vnw v) i
  have hself : rmm v N (i + 1) 11 (cn (vnw v) i) = nI (v i) := by
    show mset _ 11 _ _ 11 _ = _
    rw [ms_at, if_pos ⟨rfl, rfl⟩]
  have hbel : ∀ s, s < i → vnw v s = true → rmm v N (i + 1) 11 (cn (vnw v) s) = nI (v s) := fun s hs h => rmm_at v N h (i + 1) (by omega)
  have hdec : ∀ s, s < i → (nI (v s) = nI (v i) ↔ v s = v i) := fun s hs => by
    have a := hv s
    have b := hv i
    exact nI_eq (by omega) (by omega)
  have stp : ∀ k, k < cn (vnw v) i → ∀ f, fX10_picture_L1 (nI (cn (vnw v) i), nI i, rmm v N i) (rmm v N (i + 1)) k15 f (nI k) = if rmm v N (i + 1) 11 k = rmm v N (i + 1) 11 (cn (vnw v) i) then k15 (nI k) else f (nI (k + 1)) := fun k hk f => by
    simp only [fX10_picture_L1]
    rw [grd_T (inb_nI (by omega) (by omega)), grd_T (inb_nI (by omega) (by omega)), nI_clamp (by omega), nI_clamp (by omega), bnd_e, nI_1]
  have main := lp_srch (f := fX10_picture_L1 (nI (cn (vnw v) i), nI i, rmm v N i) (rmm v N (i + 1)) k15) (s0 := (0 : Int32)) (fun k => nI k) (fun k => !decide (rmm v N (i + 1) 11 k = rmm v N (i + 1) 11 (cn (vnw v) i))) (rt := k15 (nI (cn (vnw v) i))) (rf := fun k => k15 (nI k)) (cn (vnw v) i) (by omega) rfl
    (fun k hk ht f => by rw [stp k hk, if_neg (by simpa using ht)])
    (fun k hk ht f => by rw [stp k hk, if_pos (by simpa using ht)])
    (fun f => by
      simp only [fX10_picture_L1]
      rw [grd_T (inb_nI (by omega) (by omega)), grd_T (inb_nI (by omega) (by omega)), if_pos trivial])
  rcases main with ⟨m1, m2⟩ | ⟨k, k1, k2, k3, k4⟩
  · refine ⟨_, fun _ => rfl, fun h => ?_, m2⟩
    exfalso
    have ex : ∃ s, s < i ∧ v s = v i := by
      by_cases z : ∃ s, s < i ∧ v s = v i
      · exact z
      · exact absurd (vnw_T.mpr (fun s hs e => z ⟨s, hs, e⟩)) h
    obtain ⟨s, s1, s2, s3⟩ := vnw_ex i ex
    have hlt := cn_mono (vnw v) (show s + 1 ≤ i by omega)
    rw [cn_s s3] at hlt
    have := al_T.mp m1 (cn (vnw v) s) (by omega)
    simp only [Bool.not_eq_true', decide_eq_false_iff_not] at this
    exact this (by rw [hbel s s1 s3, hself, s2])
  · refine ⟨k, fun h => ?_, fun _ => k1, k4⟩
    exfalso
    obtain ⟨s, s1, s2, s3⟩ := cn_at i k1
    have e : rmm v N (i + 1) 11 k = rmm v N (i + 1) 11 (cn (vnw v) i) := by simpa using k2
    rw [← s3, hbel s s1 s2, hself] at e
    exact vnw_T.mp h s s1 ((hdec s s1).mp e)
theorem m_pic_run (hv : ∀ s, v s < 64) (hc : c ≤ 120) (h0 : N 1 0 = nI c) (hs : ∀ s, s < c → ∀ K : Mem, K 1 = N 1 → fX10_shown K (nI j) (nI q) (nI s) = some (nI (v s))) (k4 : (Int32 × Mem) → Option (Int32 × Mem)) : lp (fX10_picture_L2 (nI j) (nI q) k4) FU (0, 0, N) = k4 (nI (cn (vnw v) c), rmm v N c) := by
  refine lp_at (fun i => (nI (cn (vnw v) i), nI i, rmm v N i)) c (by omega) rfl (fun i hi k => ?_) (fun k => ?_)
  · have hn := cn_le (vnw v) i
    simp only [fX10_picture_L2]
    have e1 : rmm v N i 1 = N 1 := rmm_o v N (by omega) i
    rw [grd_T ib0, tc0, e1, h0, if_neg (nI_ge hi (by omega)), hs i hi _ e1, clp_e, grd_T (inb_nI (by omega) (by omega)), nI_clamp (by omega), bnd_e, jn_e]
    obtain ⟨x, x1, x2, x3⟩ := m_pic_in (N := N) hv hc hi (fun a14 => jn (fun (a16 : Int32) => bnd (nI i + 1) (fun x18 => k (a16, x18, rmm v N (i + 1)))) (fun k17 => if a14 = nI (cn (vnw v) i) then (bnd (nI (cn (vnw v) i) + 1) (fun x19 => k17 x19)) else (k17 (nI (cn (vnw v) i)))))
    refine Eq.trans x3 ?_
    rw [jn_e]
    by_cases h : vnw v i = true
    · rw [x1 h, if_pos rfl, bnd_e]
      dsimp only
      rw [bnd_e, nI_1, nI_1, cn_s h]
    · have e : cn (vnw v) (i + 1) = cn (vnw v) i := by simp only [cn]; rw [if_neg h]; rfl
      have hx := x2 h
      rw [if_neg (fun z => by have := (nI_eq (by omega) (by omega)).mp z; omega)]
      dsimp only
      rw [bnd_e, nI_1, e]
  · simp only [fX10_picture_L2]
    have e1 : rmm v N c 1 = N 1 := rmm_o v N (by omega) c
    rw [grd_T ib0, tc0, e1, h0, if_pos (nI_le (Nat.le_refl _) (by omega))]
end P72
theorem st_picture {Mx Mm : Mem} (I : Inv Mx Mm) (p q x : Int32) : ∃ rx vm Mm', fX9_picture Mx p q x = some rx ∧ fX10_picture Mm p q x = some (vm, Mm') ∧ Agr [0, 4] rx vm Mm' ∧ Inv Mx Mm' := by
  have I0 := I.th 0
  obtain ⟨N, hN⟩ : ∃ z, z = mset Mm 0 0 0 := ⟨_, rfl⟩
  rw [← hN] at I0
  obtain ⟨hR, hV, hH, hT⟩ := id I0
  have h00 : N 0 0 = 0 := by rw [hN, ms_at, if_pos ⟨rfl, rfl⟩]
  have hc := hV.c0
  unfold fX9_picture fX10_picture
  simp only [bnd_e, ← hN, jn_e]
  by_cases hj : inJ (N 1) p = true
  · obtain ⟨j, rfl, hj4, hl⟩ := inJ_ex hV hj
    have hJ := hV.2.1 j hj4 hl
    obtain ⟨n, hn6, hn⟩ := hJ.sz
    rw [x_found hR hV hj4 hl, clpx_r, grd_T (jb hj4), f_isPlan, clp_e, m_ip hj, clp_e, b01_ite]
    by_cases hq : (decide (0 ≤ q) && decide (q ≤ 1)) = true
    · obtain ⟨q, rfl, hq2⟩ := plan_ex hq
      rw [if_pos hq, hq, need_T, clpx_r, hR.w0]
      obtain ⟨c, hcc, c1, c2⟩ := bt_nI (x := N 1 0) (hi := 120) ⟨by omega, hV.1.1.2⟩
      obtain ⟨v, hv⟩ : ∃ v : Nat → Nat, ∀ s, v s < 64 ∧ bits (fun g => on (N 1) j q g (nI s)) n = nI (v s) := ⟨fun s => (bits_64 (fun g => on (N 1) j q g (nI s)) hn6).choose, fun s => (bits_64 (fun g => on (N 1) j q g (nI s)) hn6).choose_spec⟩
      have hv6 : ∀ s, v s < 64 := fun s => (hv s).1
      have c120 : c ≤ 120 := by omega
      have hxs : ∀ s, s < c → fX2_onSet Mx (1 + 2 + 10 * j) (nI q) (nI s) (nI c) = some (nI (v s)) := fun s _ => by
        rw [← hcc, x_onSet (hR.j hj4) hn hn6 hq2 (nI s) hc, (hv s).2]
      have hms : ∀ s, s < c → ∀ K : Mem, K 1 = N 1 → fX10_shown K (nI j) (nI q) (nI s) = some (nI (v s)) := fun s _ K hK => by
        rw [m_shown hj4 (by rw [hK]; exact hn) hn6 hq2 (nI s) (by rw [hK]; exact hc), hK, (hv s).2]
      rw [m_pic_run hv6 c120 hcc hms, hcc]
      dsimp only
      have hr0 : rmm v N c 0 = N 0 := rmm_o v N (by omega) c
      have I1 : Inv Mx (rmm v N c) := I0.num (rmm_o v N (by omega) c) ⟨fun k _ => by rw [hr0], rmm_o v N (by omega) c, rmm_o v N (by omega) c, rmm_o v N (by omega) c, rmm_o v N (by omega) c⟩
      have hcn := cn_le (vnw v) c
      by_cases hm : x = -1
      · subst hm
        rw [if_pos rfl, x_pic_end hv6 hxs c120 (-1) (fun i hi _ z => by
          have := cn_le (vnw v) i
          rw [ti_eq, nI_toInt (by omega)] at z
          have e : Int32.toInt (-1) = -1 := by decide
          omega), clp_e, if_pos rfl, if_neg (fun z => by
          rw [ti_eq, nI_toInt (by omega)] at z
          have e : Int32.toInt (-1) = -1 := by decide
          omega)]
        rw [show (1 : Int32) = b01 true from rfl, need_T, clpx_r]
        exact ⟨_, _, _, rfl, rfl, ⟨by rw [hr0]; exact h00, rfl⟩, I1⟩
      · rw [if_neg hm, f_in, clp_e]
        have bcn : bt (nI (cn (vnw v) c)) 0 2000000 := by unfold bt; rw [nI_toInt (by omega)]; omega
        by_cases hx : (decide (0 ≤ x) && decide (x ≤ nI (cn (vnw v) c) - 1)) = true
        · obtain ⟨k, rfl, k1, k2⟩ := arg_in bcn hx
          rw [nI_toInt (by omega)] at k1
          obtain ⟨s, s1, s2, s3⟩ := cn_at (p := vnw v) (k := k) c (by omega)
          rw [hx, b01_ite, if_pos rfl, grd_T (inb_nI (by omega) (by omega)), nI_clamp (by omega)]
          subst s3
          rw [x_pic_at hv6 hxs c120 s1 s2, clp_e, rmm_at v N s2 c s1, if_neg (fun z => by
            have := hv6 s
            rw [ti_eq, nI_toInt (by omega)] at z
            have e : Int32.toInt (-1) = -1 := by decide
            omega)]
          rw [show (1 : Int32) = b01 true from rfl, need_T, clpx_r]
          exact ⟨_, _, _, rfl, rfl, ⟨by rw [hr0]; exact h00, rfl⟩, I1⟩
        · rw [x_pic_end hv6 hxs c120 x (fun i hi h z => hx (by
            subst z
            have h2 := cn_mono (vnw v) (show i + 1 ≤ c by omega)
            rw [cn_s h] at h2
            exact in_of bcn (nI_lt (by omega) (by omega)) (by omega))), clp_e, if_neg hm, if_pos rfl, Bool.not_eq_true _ |>.mp hx, need_5', clpx_l, b01_ite, if_neg (by decide), m_raises, cl_e]
          exact ⟨_, _, _, rfl, rfl, fin_x I1 1 rfl _ _ rfl⟩
    · rw [if_neg hq, Bool.not_eq_true _ |>.mp hq, need_1, clpx_l, m_raises, cl_e]
      exact ⟨_, _, _, rfl, rfl, fin_x I0 0 rfl _ _ rfl⟩
  · have hj' := Bool.not_eq_true _ |>.mp hj
    rw [x_found_no hR hj', clpx_l, m_ip_no hj', clp_e, if_pos rfl, m_raises, cl_e]
    exact ⟨_, _, _, rfl, rfl, fin_x I0 0 rfl _ _ rfl⟩
