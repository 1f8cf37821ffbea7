/-! call: make : the greens of phases and what is between them -/
def mx2 (a b : Int32) : Int32 := if a < b then b else a
theorem mx2_ti (a b : Int32) : (mx2 a b).toInt = max a.toInt b.toInt := by
  unfold mx2
  by_cases h : a < b
  · rw [if_pos h]; rw [ti_lt] at h; omega
  · rw [if_neg h]; rw [ti_lt] at h; omega
theorem mx2_assoc (a b c : Int32) : mx2 (mx2 a b) c = mx2 a (mx2 b c) := by
  rw [ti_eq, mx2_ti, mx2_ti, mx2_ti, mx2_ti]; omega
theorem mx2_0 {a : Int32} (h : 0 ≤ a.toInt) : mx2 a 0 = a := by
  have z0 : Int32.toInt 0 = 0 := rfl
  rw [ti_eq, mx2_ti]; omega
def fm (P : Nat → Bool) (F : Nat → Int32) (a : Int32) : Nat → Int32
  | 0 => a
  | i + 1 => if P i then mx2 (fm P F a i) (F i) else fm P F a i
theorem fm_a (P : Nat → Bool) (F : Nat → Int32) {a : Int32} (ha : 0 ≤ a.toInt) : ∀ n, fm P F a n = mx2 a (fm P F 0 n)
  | 0 => (mx2_0 ha).symm
  | n + 1 => by
    have ih := fm_a P F ha n
    unfold fm
    split
    · rw [ih, mx2_assoc]
    · exact ih
theorem fm_lo (P : Nat → Bool) (F : Nat → Int32) {a : Int32} (ha : 0 ≤ a.toInt) : ∀ n, a.toInt ≤ (fm P F a n).toInt
  | 0 => Int.le_refl _
  | n + 1 => by
    have ih := fm_lo P F ha n
    unfold fm
    split
    · rw [mx2_ti]; omega
    · exact ih
theorem fm_hi (P : Nat → Bool) (F : Nat → Int32) {a : Int32} {H : Int} (ha : a.toInt ≤ H) : ∀ n, (∀ i, i < n → (F i).toInt ≤ H) → (fm P F a n).toInt ≤ H
  | 0, _ => ha
  | n + 1, h => by
    have ih := fm_hi P F ha n (fun i hi => h i (by omega))
    have := h n (by omega)
    unfold fm
    split
    · rw [mx2_ti]; omega
    · exact ih
theorem fm_ge (P : Nat → Bool) (F : Nat → Int32) (a : Int32) {i : Nat} (hP : P i = true) : ∀ n, i < n → (F i).toInt ≤ (fm P F a n).toInt
  | 0, h => absurd h (by omega)
  | n + 1, h => by
    unfold fm
    by_cases e : i = n
    · subst e; rw [if_pos hP, mx2_ti]; omega
    · have ih := fm_ge P F a hP n (by omega)
      split
      · rw [mx2_ti]; omega
      · exact ih
def phs (w : List Nat) (g : Nat) : Nat := w.getD g 0
def nx (L p : Nat) : Nat := if p + 1 < L then p + 1 else 0
def LGr (A : Ar) (j : Nat) (w : List Nat) (p : Nat) (i : Nat) : Int32 := fm (fun g => decide (phs w g = p)) (fun g => A (gx j g 1)) 0 i
def CTo (A : Ar) (j : Nat) (w : List Nat) (n q g : Nat) : Int32 := fm (fun h => decide (phs w h = q)) (fun h => kl A j g h) 0 n
def PSe (A : Ar) (j : Nat) (w : List Nat) (n L p : Nat) (i : Nat) : Int32 := fm (fun g => decide (phs w g = p)) (fun g => CTo A j w n (nx L p) g) 0 i
section P85
variable {A : Ar} {J j n L : Nat} {w : List Nat}
theorem x_ct {M : Mem} (hR : RJ M J A j) (hl : nI j < A 2) (hn : A (ix j 2) = nI n) (hn6 : n ≤ 6) (hO : OA M 466 w) (hw : w.length = n) (h6 : sm6 w) {g q : Nat} (hg : g < 6) (hq : q < 6) : fX3_clearanceTo M J (nI g) (nI q) = some (CTo A j w n q g) := by
  unfold fX3_clearanceTo CTo
  refine lp_at (fun i => (fm (fun h => decide (phs w h = q)) (fun h => kl A j g h) 0 i, nI i)) n (by omega) rfl (fun i hi k => ?_) (fun k => ?_)
  · have hi6 := h6 i (by omega)
    simp only [fX3_clearanceTo_L1]
    rw [hR.w (by omega), hn, if_neg (nI_ge hi (by omega)), grd_T (inb_nI (by omega) (by omega)), jn_e, nI_clamp (by omega), hO i (by omega), x_clear hR hl hg (show i < 6 by omega), clp_e, f_max, clp_e]
    dsimp only
    rw [bnd_e, bnd_e, nI_1]
    show _ = k (if decide (phs w i = q) = true then mx2 _ _ else _, _)
    by_cases e : w.getD i 0 = q
    · rw [if_pos (by rw [e]), if_pos (show decide (phs w i = q) = true from decide_eq_true e)]; rfl
    · rw [if_neg (fun z => e ((nI_eq (by omega) (by omega)).mp z)), if_neg (show ¬ decide (phs w i = q) = true by rw [decide_eq_true_iff]; exact e)]
  · simp only [fX3_clearanceTo_L1]
    rw [hR.w (by omega), hn, if_pos (nI_le (Nat.le_refl _) (by omega))]
theorem x_measure {M : Mem} (hR : RJ M J A j) (hl : nI j < A 2) (hn : A (ix j 2) = nI n) (hn6 : n ≤ 6) (hJ : J + 10 ≤ 465) (hL : 1 ≤ L ∧ L ≤ 6) (h465 : M 465 0 = nI L) (hO : OA M 466 w) (hw : w.length = n) (hwL : ∀ g, g < n → phs w g < L) : ∃ M', fX3_measure M J = some ((), M') ∧ (∀ o, o ≠ 468 → o ≠ 469 → M' o = M o) ∧ (∀ p, p < 6 → M' 468 p = LGr A j w p n) ∧ (∀ p, p < 6 → M' 469 p = PSe A j w n L p n) := by
  have h6 : sm6 w := fun k hk => by have := hwL k (by omega); unfold phs at this; omega
  unfold fX3_measure
  obtain ⟨M1, a1, a2, a3⟩ := fill_eq M 468 6 0 (by omega)
  obtain ⟨M2, b1, b2, b3⟩ := fill_eq M1 469 6 0 (by omega)
  rw [a1, cl_e, b1, cl_e]
  refine lp_inv (f := fX3_measure_L1 J) (fun i (s : Int32 × Mem) => s.1 = nI i ∧ (∀ o, o ≠ 468 → o ≠ 469 → s.2 o = M o) ∧ (∀ p, p < 6 → s.2 468 p = LGr A j w p i) ∧ (∀ p, p < 6 → s.2 469 p = PSe A j w n L p i)) (fun r => ∃ M', r = some ((), M') ∧ (∀ o, o ≠ 468 → o ≠ 469 → M' o = M o) ∧ (∀ p, p < 6 → M' 468 p = LGr A j w p n) ∧ (∀ p, p < 6 → M' 469 p = PSe A j w n L p n)) n (by omega) (fun i hi s hs => Or.inl ?_) (fun s hs => ?_) (0, M2) ⟨rfl, fun o o1 o2 => (b2 o o2).trans (a2 o o1), fun p hp => by show M2 468 p = _; rw [b2 468 (by omega), a3, if_pos hp]; rfl, fun p hp => by show M2 469 p = _; rw [b3, if_pos hp]; rfl⟩
  · obtain ⟨x, K⟩ := s
    obtain ⟨c1, c2, c3, c4⟩ := hs
    dsimp only at c1 c2 c3 c4
    subst c1
    have hp := hwL i hi
    have hp6 : phs w i < 6 := by omega
    have hRK : RJ K J A j := RJ_copy (fun o k ho _ => by rw [c2 (J + o) (by omega) (by omega)]) hR
    have hOK : K 466 i = nI (phs w i) := by rw [c2 466 (by omega) (by omega)]; exact hO i (by omega)
    have h4 : K 465 0 = nI L := by rw [c2 465 (by omega) (by omega)]; exact h465
    have hls : K (J + 3) i = A (gx j i 1) := hRK.ls (by omega)
    have hnx : nx L (phs w i) < 6 := by unfold nx; split <;> omega
    have nxe : (if K 465 0 ≤ nI (phs w i) + 1 then (0 : Int32) else nI (phs w i) + 1) = nI (nx L (phs w i)) := by
      rw [h4, nI_1]
      unfold nx
      by_cases z : phs w i + 1 < L
      · rw [if_pos z, if_neg (nI_ge z (by omega))]
      · rw [if_neg z, if_pos (nI_le (by omega) (by omega))]; rfl
    obtain ⟨M11, hM11⟩ : ∃ z, z = mset K 468 (phs w i) (mx2 (LGr A j w (phs w i) i) (A (gx j i 1))) := ⟨_, rfl⟩
    have hct := x_ct (M := M11) (g := i) (q := nx L (phs w i)) (RJ_copy (M := K) (M' := M11) (J := J) (J' := J) (fun o k ho _ => by rw [hM11, ms_other _ _ _ (by omega)]) hRK) hl hn hn6 (fun k hk => by rw [hM11, ms_other _ _ _ (by omega), c2 466 (by omega) (by omega)]; exact hO k hk) hw h6 (by omega) hnx
    have h469 : M11 469 (phs w i) = PSe A j w n L (phs w i) i := by rw [hM11, ms_other _ _ _ (by omega)]; exact c4 _ hp6
    refine ⟨(nI (i + 1), mset M11 469 (phs w i) (mx2 (PSe A j w n L (phs w i) i) (CTo A j w n (nx L (phs w i)) i))), ⟨rfl, fun o o1 o2 => ?_, fun p hp' => ?_, fun p hp' => ?_⟩, fun k => ?_⟩
    · show mset M11 469 (phs w i) (mx2 (PSe A j w n L (phs w i) i) (CTo A j w n (nx L (phs w i)) i)) o = _
      rw [ms_other _ _ _ o2, hM11, ms_other _ _ _ o1]; exact c2 o o1 o2
    · show mset M11 469 (phs w i) (mx2 (PSe A j w n L (phs w i) i) (CTo A j w n (nx L (phs w i)) i)) 468 p = (if decide (phs w i = p) = true then mx2 (LGr A j w p i) (A (gx j i 1)) else LGr A j w p i)
      rw [ms_other _ _ _ (by omega), hM11, ms_at]
      by_cases e : p = phs w i
      · subst e; rw [if_pos ⟨rfl, rfl⟩, if_pos (decide_eq_true rfl)]
      · rw [if_neg (fun z => e z.2), if_neg (by rw [decide_eq_true_iff]; exact fun z => e z.symm)]; exact c3 p hp'
    · show mset M11 469 (phs w i) (mx2 (PSe A j w n L (phs w i) i) (CTo A j w n (nx L (phs w i)) i)) 469 p = (if decide (phs w i = p) = true then mx2 (PSe A j w n L p i) (CTo A j w n (nx L p) i) else PSe A j w n L p i)
      rw [ms_at]
      by_cases e : p = phs w i
      · subst e; rw [if_pos ⟨rfl, rfl⟩, if_pos (decide_eq_true rfl)]
      · rw [if_neg (fun z => e z.2), if_neg (by rw [decide_eq_true_iff]; exact fun z => e z.symm), hM11, ms_other _ _ _ (by omega)]; exact c4 p hp'
    · simp only [fX3_measure_L1]
      rw [hRK.w (by omega), hn, if_neg (nI_ge hi (by omega)), grd_T (inb_nI (by omega) (by omega)), nI_clamp (by omega), hOK, bnd_e, jn_if _ nxe]
      rw [grd_T (inb_nI hp6 (by omega)), grd_T (inb_nI (by omega) (by omega)), nI_clamp (show phs w i < 2 ^ 31 by omega), f_max, clp_e, hls, c3 _ hp6, grd_T (inb_nI hp6 (by omega)), bnd_e, show (if LGr A j w (phs w i) i < A (gx j i 1) then A (gx j i 1) else LGr A j w (phs w i) i) = mx2 (LGr A j w (phs w i) i) (A (gx j i 1)) from rfl, ← hM11, grd_T (inb_nI hp6 (by omega)), hct, clp_e, f_max, clp_e, grd_T (inb_nI hp6 (by omega)), h469, bnd_e, bnd_e, nI_1]
      rfl
  · obtain ⟨x, K⟩ := s
    obtain ⟨c1, c2, c3, c4⟩ := hs
    dsimp only at c1 c2 c3 c4
    subst c1
    have hRK : RJ K J A j := RJ_copy (fun o k ho _ => by rw [c2 (J + o) (by omega) (by omega)]) hR
    refine ⟨_, ⟨K, rfl, c2, c3, c4⟩, fun k => ?_⟩
    simp only [fX3_measure_L1]
    rw [hRK.w (by omega), hn, if_pos (nI_le (Nat.le_refl _) (by omega))]
/-! the reference -/
def s2 (K : Mem) (p : Nat) (a b : Int32) : Mem := mset (mset K 9 p a) 10 p b
theorem s2_9 (K : Mem) (p : Nat) (a b c : Int32) : mset (s2 K p a b) 9 p c = s2 K p c b := by
  unfold s2
  funext o k
  simp only [ms_at]
  by_cases h : o = 9 ∧ k = p
  · rw [if_pos h, if_neg (by omega), if_pos h]
  · rw [if_neg h, if_neg h, if_neg h]
theorem s2_10 (K : Mem) (p : Nat) (a b c : Int32) : mset (s2 K p a b) 10 p c = s2 K p a c := by
  unfold s2
  funext o k
  simp only [ms_at]
  by_cases h : o = 10 ∧ k = p
  · rw [if_pos h, if_pos h]
  · rw [if_neg h, if_neg h, if_neg h]
theorem s2_r9 (K : Mem) (p : Nat) (a b : Int32) : s2 K p a b 9 p = a := by
  unfold s2; rw [ms_other _ _ _ (by omega), ms_at, if_pos ⟨rfl, rfl⟩]
theorem s2_r10 (K : Mem) (p : Nat) (a b : Int32) : s2 K p a b 10 p = b := by
  unfold s2; rw [ms_at, if_pos ⟨rfl, rfl⟩]
theorem s2_o (K : Mem) (p : Nat) (a b : Int32) {o : Nat} (h9 : o ≠ 9) (h10 : o ≠ 10) : s2 K p a b o = K o := by
  unfold s2; rw [ms_other _ _ _ h10, ms_other _ _ _ h9]
theorem s2_q (K : Mem) (p : Nat) (a b : Int32) {o q : Nat} (h : q ≠ p) : s2 K p a b o q = K o q := by
  unfold s2; rw [ms_at, if_neg (fun z => h z.2), ms_at, if_neg (fun z => h z.2)]
def fR (A : Ar) (j : Nat) (w : List Nat) (n L p : Nat) : Nat → Int32
  | 0 => 0
  | g + 1 => if phs w g = p then fm (fun h => decide (phs w h = nx L p)) (fun h => kl A j g h) (fR A j w n L p g) n else fR A j w n L p g
theorem fR_lo (A : Ar) (j : Nat) (w : List Nat) (n L p : Nat) : ∀ g, 0 ≤ (fR A j w n L p g).toInt
  | 0 => Int.le_refl 0
  | g + 1 => by
    have ih := fR_lo A j w n L p g
    unfold fR
    split
    · exact Int.le_trans ih (fm_lo _ _ ih n)
    · exact ih
theorem fR_e (A : Ar) (j : Nat) (w : List Nat) (n L p : Nat) : ∀ g, fR A j w n L p g = PSe A j w n L p g
  | 0 => rfl
  | g + 1 => by
    have ih := fR_e A j w n L p g
    show _ = (if decide (phs w g = p) = true then mx2 (PSe A j w n L p g) (CTo A j w n (nx L p) g) else PSe A j w n L p g)
    rw [← ih]
    show (if phs w g = p then fm (fun h => decide (phs w h = nx L p)) (fun h => kl A j g h) (fR A j w n L p g) n else fR A j w n L p g) = _
    by_cases e : phs w g = p
    · rw [if_pos e, if_pos (decide_eq_true e), fm_a _ _ (fR_lo A j w n L p g)]; rfl
    · rw [if_neg e, if_neg (by rw [decide_eq_true_iff]; exact e)]
theorem m_ml8 {N : Mem} (hj : j < 4) (h1 : N 1 = A) (hn6 : n ≤ 6) (hO : OA N 8 w) (hw : w.length = n) (h6 : sm6 w) {p q g : Nat} (hp : p < 6) (hq : q < 6) (hg : g < 6) (a b : Int32) (y : Int32 × Mem) (z : Mem) (k81 : Mem → Option (Int32 × Mem)) : lp (fX10_make_L8 (nI j) (nI n) (y.1, nI p, y.2) (nI q) (nI g, z) k81) FU (0, s2 N p a b) = k81 (s2 N p a (fm (fun h => decide (phs w h = q)) (fun h => kl A j g h) b n)) := by
  refine lp_at (fun i => (nI i, s2 N p a (fm (fun h => decide (phs w h = q)) (fun h => kl A j g h) b i))) n (by omega) rfl (fun i hi k => ?_) (fun k => ?_)
  · have hi6 := h6 i (by omega)
    simp only [fX10_make_L8]
    have e8 : s2 N p a (fm (fun h => decide (phs w h = q)) (fun h => kl A j g h) b i) 8 i = nI (w.getD i 0) := by rw [s2_o _ _ _ _ (by omega) (by omega)]; exact hO i (by omega)
    rw [if_neg (nI_ge hi (by omega)), grd_T (inb_nI (by omega) (by omega)), jn_e, nI_clamp (show i < 2 ^ 31 by omega), e8]
    dsimp only
    show _ = k (_, s2 N p a (if decide (phs w i = q) = true then mx2 _ _ else _))
    by_cases e : w.getD i 0 = q
    · rw [if_pos (by rw [e]), grd_T (inb_nI hp (by omega)), m_clear hj hg (show i < 6 by omega), clp_e, s2_o _ _ _ _ (show (1 : Nat) ≠ 9 by omega) (by omega), h1, f_max, clp_e, grd_T (inb_nI hp (by omega)), nI_clamp (show p < 2 ^ 31 by omega), s2_r10, bnd_e, s2_10, bnd_e, nI_1, if_pos (show decide (phs w i = q) = true from decide_eq_true e)]; rfl
    · rw [if_neg (fun z => e ((nI_eq (by omega) (by omega)).mp z)), bnd_e, nI_1, if_neg (show ¬ decide (phs w i = q) = true by rw [decide_eq_true_iff]; exact e)]
  · simp only [fX10_make_L8]
    rw [if_pos (nI_le (Nat.le_refl _) (by omega))]
theorem m_ml9 {N : Mem} (hj : j < 4) (h1 : N 1 = A) (hn6 : n ≤ 6) (hO : OA N 8 w) (hw : w.length = n) (h6 : sm6 w) {p : Nat} (hp : p < 6) (hL : L ≤ 6) (y : Int32 × Mem) (k75 : Mem → Option (Int32 × Mem)) : lp (fX10_make_L9 (nI j) (nI n) (y.1, nI p, y.2) (nI (nx L p)) k75) FU (0, s2 N p 0 0) = k75 (s2 N p (LGr A j w p n) (fR A j w n L p n)) := by
  have hnx : nx L p < 6 := by unfold nx; split <;> omega
  refine lp_at (fun i => (nI i, s2 N p (LGr A j w p i) (fR A j w n L p i))) n (by omega) rfl (fun i hi k => ?_) (fun k => ?_)
  · have hi6 := h6 i (by omega)
    simp only [fX10_make_L9]
    have e8 : s2 N p (LGr A j w p i) (fR A j w n L p i) 8 i = nI (w.getD i 0) := by rw [s2_o _ _ _ _ (by omega) (by omega)]; exact hO i (by omega)
    have e1 : s2 N p (LGr A j w p i) (fR A j w n L p i) 1 = A := by rw [s2_o _ _ _ _ (by omega) (by omega)]; exact h1
    have em : ∀ k81, lp (fX10_make_L8 (nI j) (nI n) (y.1, nI p, y.2) (nI (nx L p)) (nI i, s2 N p (LGr A j w p i) (fR A j w n L p i)) k81) FU (0, s2 N p (mx2 (LGr A j w p i) (A (gx j i 1))) (fR A j w n L p i)) = k81 (s2 N p (mx2 (LGr A j w p i) (A (gx j i 1))) (fm (fun h => decide (phs w h = nx L p)) (fun h => kl A j i h) (fR A j w n L p i) n)) := fun k81 => m_ml8 hj h1 hn6 hO hw h6 hp hnx (by omega) _ _ y _ k81
    rw [if_neg (nI_ge hi (by omega)), grd_T (inb_nI (by omega) (by omega)), jn_e, nI_clamp (show i < 2 ^ 31 by omega), e8]
    dsimp only
    show _ = k (_, s2 N p (if decide (phs w i = p) = true then mx2 _ _ else _) (if phs w i = p then _ else _))
    by_cases e : w.getD i 0 = p
    · rw [if_pos (by rw [e]), grd_T (inb_nI hp (by omega)), m_g1 hj (show i < 6 by omega), clp_e, e1, f_max, clp_e, grd_T (inb_nI hp (by omega)), nI_clamp (show p < 2 ^ 31 by omega), s2_r9, bnd_e, s2_9, if_pos (show decide (phs w i = p) = true from decide_eq_true e), if_pos (show phs w i = p from e)]
      refine (em _).trans ?_
      rw [bnd_e, nI_1]
      rfl
    · rw [if_neg (fun z => e ((nI_eq (by omega) (by omega)).mp z)), bnd_e, nI_1, if_neg (show ¬ decide (phs w i = p) = true by rw [decide_eq_true_iff]; exact e), if_neg (show ¬ phs w i = p from e)]; rfl
  · simp only [fX10_make_L9]
    rw [if_pos (nI_le (Nat.le_refl _) (by omega))]
/-- the seconds left behind phases below p -/
def lfo (A : Ar) (j : Nat) (w : List Nat) (n L : Nat) : Nat → Int32
  | 0 => A 0
  | p + 1 => lfo A j w n L p - (LGr A j w p n + PSe A j w n L p n)
def KKm (N : Mem) (A : Ar) (j : Nat) (w : List Nat) (n L : Nat) : Nat → Mem
  | 0 => N
  | p + 1 => s2 (KKm N A j w n L p) p (LGr A j w p n) (PSe A j w n L p n)
theorem KK_o (N : Mem) {o : Nat} (h9 : o ≠ 9) (h10 : o ≠ 10) : ∀ p, KKm N A j w n L p o = N o
  | 0 => rfl
  | p + 1 => (s2_o _ _ _ _ h9 h10).trans (KK_o N h9 h10 p)
theorem KK_9 (N : Mem) {q : Nat} : ∀ p, q < p → KKm N A j w n L p 9 q = LGr A j w q n ∧ KKm N A j w n L p 10 q = PSe A j w n L q n
  | 0, h => absurd h (by omega)
  | p + 1, h => by
    by_cases e : q = p
    · subst e; exact ⟨s2_r9 _ _ _ _, s2_r10 _ _ _ _⟩
    · have ih := KK_9 N p (q := q) (by omega)
      exact ⟨(s2_q _ _ _ _ e).trans ih.1, (s2_q _ _ _ _ e).trans ih.2⟩
theorem m_ml10 {N : Mem} (hj : j < 4) (h1 : N 1 = A) (hn6 : n ≤ 6) (hO : OA N 8 w) (hw : w.length = n) (h6 : sm6 w) (hL : 1 ≤ L ∧ L ≤ 6) (k14 : (Int32 × Mem) → Option (Int32 × Mem)) : lp (fX10_make_L10 (nI j) (nI n) (nI L) k14) FU (A 0, 0, N) = k14 (lfo A j w n L L, KKm N A j w n L L) := by
  refine lp_at (fun p => (lfo A j w n L p, nI p, KKm N A j w n L p)) L (by omega) rfl (fun p hp k => ?_) (fun k => ?_)
  · simp only [fX10_make_L10]
    have e9 : ∀ K : Mem, mset (mset K 9 p 0) 10 p 0 = s2 K p 0 0 := fun _ => rfl
    have enx : (nI p + 1) - (nI p + 1) / nI L * nI L = nI (nx L p) := by
      rw [nI_1, nI_div (by omega) (by omega) (by omega), nI_mul, nI_sub (Nat.div_mul_le_self _ _)]
      unfold nx
      by_cases z : p + 1 < L
      · rw [if_pos z, Nat.div_eq_of_lt z]; simp
      · rw [if_neg z, show p + 1 = L by omega, Nat.div_self (by omega)]; simp
    have nzL : nz (nI L) = true := by unfold nz; rw [decide_eq_false (nI_ne0 (by omega) (by omega))]; rfl
    have hO' : OA (KKm N A j w n L p) 8 w := fun q hq => by rw [KK_o N (by omega) (by omega) p]; exact hO q hq
    have h1' : KKm N A j w n L p 1 = A := (KK_o N (by omega) (by omega) p).trans h1
    rw [if_neg (nI_ge hp (by omega)), grd_T (inb_nI (by omega) (by omega)), nI_clamp (by omega), bnd_e, grd_T (inb_nI (by omega) (by omega)), bnd_e, e9, grd_T nzL, enx, bnd_e, jn_e]
    have em := m_ml9 (N := KKm N A j w n L p) hj h1' hn6 hO' hw h6 (p := p) (by omega) hL.2 (lfo A j w n L p, KKm N A j w n L p) (fun a74 => grd (inb (nI p) 6) (grd (inb (nI p) 6) (bnd (lfo A j w n L p - (a74 9 p + a74 10 p)) (fun x76 => bnd (nI p + 1) (fun x77 => k (x76, x77, a74))))))
    refine em.trans ?_
    rw [fR_e]
    show grd (inb (nI p) 6) (grd (inb (nI p) 6) (bnd (lfo A j w n L p - (KKm N A j w n L (p + 1) 9 p + KKm N A j w n L (p + 1) 10 p)) (fun x76 => bnd (nI p + 1) (fun x77 => k (x76, x77, KKm N A j w n L (p + 1)))))) = _
    obtain ⟨r9, r10⟩ := KK_9 (A := A) (j := j) (w := w) (n := n) (L := L) N (q := p) (p + 1) (by omega)
    rw [grd_T (inb_nI (by omega) (by omega)), grd_T (inb_nI (by omega) (by omega)), r9, r10, bnd_e, bnd_e, nI_1]
    rfl
  · simp only [fX10_make_L10]
    rw [if_pos (nI_le (Nat.le_refl _) (by omega))]
end P85
