/-! call: report : the call -/
def okl (w : List Int32) : Bool := w.all (fun v => decide ((32 : Int32) ≤ v) && decide (v ≤ 126))
theorem okl_app (a b : List Int32) : okl (a ++ b) = (okl a && okl b) := by unfold okl; rw [List.all_append]
theorem okl_at {w : List Int32} (h : okl w = true) {k : Nat} (hk : k < w.length) : bt (w.getD k 0) 32 126 := by
  unfold okl at h
  rw [List.all_eq_true] at h
  have e : w.getD k 0 = w[k] := by simp [List.getD, List.getElem?_eq_getElem hk]
  have := h w[k] (List.getElem_mem hk)
  rw [e]
  exact dec_ct this
theorem okl_dgu (n u : Nat) : okl (dgu n u) = true := by
  have key : ∀ d : Fin 10, okl [nI (48 + d.val)] = true := by decide +kernel
  unfold dgu
  split
  · exact key ⟨n / u % 10, by omega⟩
  · rfl
theorem okl_dg (n : Nat) : okl (dg n) = true := by
  unfold dg
  rw [okl_app, okl_app, okl_app, okl_dgu, okl_dgu, okl_dgu, okl_dgu]; rfl
theorem okl_gs (p : Nat → Bool) : ∀ i, i ≤ 6 → okl (gs p i) = true
  | 0, _ => rfl
  | i + 1, h => by
    have key : ∀ d : Fin 6, okl [32, nI (48 + d.val)] = true := by decide +kernel
    unfold gs
    rw [okl_app, okl_gs p i (by omega), Bool.true_and]
    split
    · exact key ⟨i, by omega⟩
    · rfl
theorem okl_gl {nm : List Int32} (h : okl nm = true) (p : Nat → Bool) : okl (gl nm p) = true := by
  unfold gl
  rw [okl_app, okl_app, h, okl_gs p 6 (by omega)]
  split <;> rfl
theorem gl_len {nm : List Int32} (p : Nat → Bool) : (gl nm p).length ≤ nm.length + 19 := by
  have := gs_len p 6
  have a : (TX 15).length = 7 := rfl
  have b : (TX 16).length = 2 := rfl
  unfold gl
  simp only [List.length_append]
  split <;> omega
/-- the whole report -/
def rep (j n pos q s : Nat) (p : Nat → Bool) : List Int32 := TX 10 ++ dg j ++ TX 11 ++ dg pos ++ TX 12 ++ dg q ++ TX 13 ++ dg s ++ gl (TX 14) (fun g => decide (g < n) && p g) ++ gl (TX 18) (fun g => decide (g < n) && !p g)
theorem okl_rep (j n pos q s : Nat) (p : Nat → Bool) : okl (rep j n pos q s p) = true := by
  unfold rep
  have a : okl (TX 10) = true := by decide +kernel
  have b : okl (TX 11) = true := by decide +kernel
  have c : okl (TX 12) = true := by decide +kernel
  have d : okl (TX 13) = true := by decide +kernel
  have e : okl (TX 14) = true := by decide +kernel
  have f : okl (TX 18) = true := by decide +kernel
  simp only [okl_app, okl_dg, okl_gl e, okl_gl f, a, b, c, d]; rfl
section P82
variable {N : Mem}
theorem x_write {M : Mem} {A : Ar} {J j n pos q s : Nat} {p : Nat → Bool} (hJ2 : M J 2 = nI n) (hJ0 : M J 0 = nI pos) (hJ3 : M J 3 = nI q) (hJ : J < 477) (hj : j < 4) (h6 : n ≤ 6) (hpos : pos < 10000) (hq : q < 2) (hs : s < 1000) : ∃ M', fX4_write M (nI j) J (nI s) (bits p n) = some ((), M') ∧ PX M M' (rep j n pos q s p) := by
  have s10 : sl 10 = 9 := rfl
  have s11 : sl 11 = 4 := rfl
  have s12 : sl 12 = 7 := rfl
  have s13 : sl 13 = 9 := rfl
  have s14 : sl 14 = 2 := rfl
  have s18 : sl 18 = 3 := rfl
  have t10 : (TX 10).length = 9 := rfl
  have t11 : (TX 11).length = 4 := rfl
  have t12 : (TX 12).length = 7 := rfl
  have t13 : (TX 13).length = 9 := rfl
  have t14 : (TX 14).length = 2 := rfl
  have d1 := dg_len j
  have d2 := dg_len pos
  have d3 := dg_len q
  have d4 := dg_len s
  have g1 := gl_len (nm := TX 14) (fun g => decide (g < n) && p g)
  unfold fX4_write
  rw [hJ2, off_set p h6, on_set p h6, bnd_e, bnd_e]
  have h0 : PX M (mset M 477 0 0) [] := ⟨fun o a _ => ms_other _ _ _ a, by rw [ms_at, if_pos ⟨rfl, rfl⟩]; rfl, by simp, fun k hk => absurd hk (by simp)⟩
  obtain ⟨K1, a1, b1⟩ := x_text (i := 10) h0 (by omega) (by simp only [List.length_nil]; omega)
  rw [List.nil_append] at b1
  obtain ⟨K2, a2, b2⟩ := x_num (n := j) b1 (by omega) (by omega)
  obtain ⟨K3, a3, b3⟩ := x_text (i := 11) b2 (by omega) (by simp only [List.length_append]; omega)
  obtain ⟨K4, a4, b4⟩ := x_num (n := pos) b3 (by omega) (by simp only [List.length_append]; omega)
  obtain ⟨K5, a5, b5⟩ := x_text (i := 12) b4 (by omega) (by simp only [List.length_append]; omega)
  obtain ⟨K6, a6, b6⟩ := x_num (n := q) b5 (by omega) (by simp only [List.length_append]; omega)
  obtain ⟨K7, a7, b7⟩ := x_text (i := 13) b6 (by omega) (by simp only [List.length_append]; omega)
  obtain ⟨K8, a8, b8⟩ := x_num (n := s) b7 (by omega) (by simp only [List.length_append]; omega)
  obtain ⟨K9, a9, b9⟩ := x_groups (i := 14) (p := fun g => decide (g < n) && p g) b8 (by omega) (by simp only [List.length_append]; omega)
  obtain ⟨K10, a10, b10⟩ := x_groups (i := 18) (p := fun g => decide (g < n) && !p g) b9 (by omega) (by simp only [List.length_append]; omega)
  refine ⟨K10, ?_, by unfold rep; exact b10⟩
  rw [a1, cl_e, a2, cl_e, a3, cl_e, b3.1 J (by omega) (by omega), hJ0, a4, cl_e, a5, cl_e, b5.1 J (by omega) (by omega), hJ3, a6, cl_e, a7, cl_e, a8, cl_e, a9, cl_e, a10, cl_e]
end P82
theorem st_report {Mx Mm : Mem} (I : Inv Mx Mm) (p : Int32) : ∃ rx Mx' vm Mm', fX9_report Mx p = some (rx, Mx') ∧ fX10_report Mm p = some (vm, Mm') ∧ Agr [0] rx vm Mm' ∧ Inv Mx' Mm' := by
  have I0 := I.th 0
  obtain ⟨N, hN⟩ : ∃ z, z = mset Mm 0 0 0 := ⟨_, rfl⟩
  rw [← hN] at I0
  obtain ⟨hR, hV, hH, hT⟩ := id I0
  have h00 : N 0 0 = 0 := by rw [hN, ms_at, if_pos ⟨rfl, rfl⟩]
  have hc := hV.c0
  unfold fX9_report fX10_report
  simp only [bnd_e, ← hN]
  by_cases hj : inJ (N 1) p = true
  · obtain ⟨j, rfl, hj4, hl⟩ := inJ_ex hV hj
    have hJ := hV.2.1 j hj4 hl
    obtain ⟨n, hn6, hn⟩ := hJ.sz
    obtain ⟨q, q2, hq⟩ := plan_of hJ
    obtain ⟨pos, hpos, p1, p2⟩ := bt_nI (x := N 1 (ix j 0)) (hi := 9999) hJ.1
    have w1 := wr_lo (x := N 1 3 - N 1 (ix j 1)) hc
    have w2 := wr_hi (x := N 1 3 - N 1 (ix j 1)) hc
    have c120 := hV.1.1.2
    obtain ⟨s, hs, s1, s2⟩ := bt_nI (x := wr (N 1 3 - N 1 (ix j 1)) (N 1 0)) (hi := 119) ⟨w1, by omega⟩
    obtain ⟨f, hf⟩ : ∃ f : Nat → Bool, f = fun g => on (N 1) j q g (nI s) := ⟨_, rfl⟩
    have hJx := hR.j hj4
    have x3 : Mx (1 + 2 + 10 * j) 3 = nI q := by rw [hJx.w (by omega)]; exact hq
    have x0 : Mx (1 + 2 + 10 * j) 0 = nI pos := by rw [hJx.w (by omega)]; exact hpos
    have x2 : Mx (1 + 2 + 10 * j) 2 = nI n := by rw [hJx.w (by omega)]; exact hn
    obtain ⟨Mx', e1, e2⟩ := x_write (A := N 1) (M := Mx) (J := 1 + 2 + 10 * j) (j := j) (p := f) (s := s) x2 x0 x3 (by omega) hj4 hn6 (by omega) q2 (by omega)
    rw [x_found hR hV hj4 hl, clpm_r, grd_T (jb hj4), hR.w2, hR.w0, x_local hJx _ hc, clp_e, hs, x3, x_onSet hJx hn hn6 q2 (nI s) hc, clp_e, ← hf, e1, cl_e]
    -- the reference
    have s20 : sl 20 = 9 := rfl
    have s21 : sl 21 = 4 := rfl
    have s22 : sl 22 = 7 := rfl
    have s23 : sl 23 = 9 := rfl
    have s24 : sl 24 = 2 := rfl
    have s28 : sl 28 = 3 := rfl
    have t20 : (TX 20).length = 9 := rfl
    have t21 : (TX 21).length = 4 := rfl
    have t22 : (TX 22).length = 7 := rfl
    have t23 : (TX 23).length = 9 := rfl
    have t24 : (TX 24).length = 2 := rfl
    have d1 := dg_len j
    have d2 := dg_len pos
    have d3 := dg_len q
    have d4 := dg_len s
    have g1 := gl_len (nm := TX 24) (fun g => decide (g < n) && f g)
    have h0 : PM N (mset N 0 13 0) [] := ⟨fun o a _ => ms_other _ _ _ a, fun k hk => by rw [ms_at, if_neg (fun z => hk z.2)], by rw [ms_at, if_pos ⟨rfl, rfl⟩]; rfl, by simp, fun k hk => absurd hk (by simp)⟩
    obtain ⟨K1, a1, b1⟩ := m_text (i := 20) h0 (by omega) (by simp only [List.length_nil]; omega)
    rw [List.nil_append] at b1
    obtain ⟨K2, a2, b2⟩ := m_num 7 (n := j) b1 (by omega) (by omega) (by omega)
    obtain ⟨K3, a3, b3⟩ := m_text (i := 21) b2 (by omega) (by simp only [List.length_append]; omega)
    obtain ⟨K4, a4, b4⟩ := m_num 7 (n := pos) b3 (by omega) (by omega) (by simp only [List.length_append]; omega)
    obtain ⟨K5, a5, b5⟩ := m_text (i := 22) b4 (by omega) (by simp only [List.length_append]; omega)
    obtain ⟨K6, a6, b6⟩ := m_num 7 (n := q) b5 (by omega) (by omega) (by simp only [List.length_append]; omega)
    obtain ⟨K7, a7, b7⟩ := m_text (i := 23) b6 (by omega) (by simp only [List.length_append]; omega)
    obtain ⟨K8, a8, b8⟩ := m_num 7 (n := s) b7 (by omega) (by omega) (by simp only [List.length_append]; omega)
    obtain ⟨K9, a9, b9⟩ := m_groups (i := 24) (n := n) (p := fun g => decide (g < n) && f g) b8 (by omega) hn6 (fun g hg _ => by rw [decide_eq_false (by omega)]; rfl) (by simp only [List.length_append]; omega)
    obtain ⟨K10, a10, b10⟩ := m_groups (i := 28) (n := n) (p := fun g => decide (g < n) && !f g) b9 (by omega) hn6 (fun g hg _ => by rw [decide_eq_false (by omega)]; rfl) (by simp only [List.length_append]; omega)
    have o1 : ∀ {K : Mem} {w : List Int32}, PM N K w → K 1 = N 1 := fun h => h.1 1 (by omega) (by omega)
    have f0 : fX10_of K3 (nI j) 0 = some (nI pos) := by rw [m_of0 hj4, o1 b3, hpos]
    have f3 : fX10_of K5 (nI j) 3 = some (nI q) := by rw [m_of3 hj4, o1 b5, hq]
    have fl : fX10_local K7 (nI j) (K7 1 3) = some (nI s) := by rw [m_local hj4 _ (by rw [o1 b7]; exact hc), o1 b7, hs]
    have f3' : fX10_of K8 (nI j) 3 = some (nI q) := by rw [m_of3 hj4, o1 b8, hq]
    have fl' : fX10_local K8 (nI j) (K8 1 3) = some (nI s) := by rw [m_local hj4 _ (by rw [o1 b8]; exact hc), o1 b8, hs]
    have fs' : fX10_shown K8 (nI j) (nI q) (nI s) = some (bits f n) := by rw [m_shown hj4 (by rw [o1 b8]; exact hn) hn6 q2 _ (by rw [o1 b8]; exact hc), o1 b8, ← hf]
    have f2 : fX10_of K8 (nI j) 2 = some (nI n) := by rw [m_of2 hj4, o1 b8, hn]
    have f2' : fX10_of K9 (nI j) 2 = some (nI n) := by rw [m_of2 hj4, o1 b9, hn]
    rw [m_ij, hj, clp_e, if_neg (by decide), a1, cl_e, a2, cl_e, a3, cl_e, f0, clp_e, a4, cl_e, a5, cl_e, f3, clp_e, a6, cl_e, a7, cl_e, grd_T ib3, tc3, fl, clp_e, a8, cl_e, f3', clp_e, grd_T ib3, fl', clp_e, fs', clp_e, f2, clp_e, show fX10_lists K8 (nI n) (bits f n) 24 = some ((), K9) from (by rw [on_set f hn6]; exact a9), cl_e, f2', clp_e, clp_e, off_set f hn6, a10, cl_e]
    have eL : TX 20 ++ dg j ++ TX 21 ++ dg pos ++ TX 22 ++ dg q ++ TX 23 ++ dg s ++ gl (TX 24) (fun g => decide (g < n) && f g) ++ gl (TX 28) (fun g => decide (g < n) && !f g) = rep j n pos q s f := rfl
    rw [eL] at b10
    obtain ⟨u1, u2, u3, u4⟩ := e2
    obtain ⟨v1, v2, v3, v4, v5⟩ := b10
    refine ⟨_, _, _, _, rfl, rfl, ⟨by rw [v2 0 (by omega)]; exact h00, by rw [u2, v3]⟩, RS_frame (fun o _ _ => u1 o (by omega) (by omega)) (by rw [v1 1 (by omega) (by omega)]; exact hR), by rw [v1 1 (by omega) (by omega)]; exact hV, HR_frame (fun o _ _ => u1 o (by omega) (by omega)) (v1 2 (by omega) (by omega)) (v2 3 (by omega)) hH, ?_⟩
    obtain ⟨⟨y1, y2⟩, ⟨l, t1, t2, t3, t4⟩, _, ⟨z1, z2, z3, z4⟩⟩ := hT
    refine ⟨⟨by rw [u1 0 (by omega) (by omega), v2 5 (by omega)]; exact y1, ?_⟩, ⟨l, t1, by rw [u1 472 (by omega) (by omega)]; exact t2, by rw [v2 8 (by omega)]; exact t3, fun k hk => by rw [u1 473 (by omega) (by omega), v1 5 (by omega) (by omega)]; exact t4 k hk⟩, ⟨_, u3, u2, v3, fun k hk => by rw [u4 k hk, v5 k hk]; exact ⟨rfl, okl_at (okl_rep j n pos q s f) hk⟩⟩, ⟨by rw [u1 0 (by omega) (by omega), v2 11 (by omega)]; exact z1, by rw [u1 0 (by omega) (by omega), v2 10 (by omega)]; exact z2, by rw [v2 11 (by omega)]; exact z3, by rw [v2 10 (by omega)]; exact z4⟩⟩
    rw [v2 5 (by omega), v1 3 (by omega) (by omega)]
    rcases y2 with y2 | ⟨y2, y3, y4⟩
    · exact Or.inl y2
    · exact Or.inr ⟨y2, RS_frame (fun o _ _ => u1 o (by omega) (by omega)) y3, y4⟩
  · have hj' := Bool.not_eq_true _ |>.mp hj
    rw [x_found_no hR hj', clpm_l, m_ij, hj', clp_e, if_pos (show b01 false = 0 from rfl), m_raises, cl_e]
    exact ⟨_, _, _, _, rfl, rfl, fin_x I0 0 rfl _ _ rfl⟩
