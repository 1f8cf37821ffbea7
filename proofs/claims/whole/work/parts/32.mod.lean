/-! the reference's readings -/
section RM
variable {M : Mem}
theorem tc0 : (0 : Int32).toNatClampNeg = 0 := rfl
theorem tc1 : (1 : Int32).toNatClampNeg = 1 := rfl
theorem tc2 : (2 : Int32).toNatClampNeg = 2 := rfl
theorem tc3 : (3 : Int32).toNatClampNeg = 3 := rfl
theorem tc4 : (4 : Int32).toNatClampNeg = 4 := rfl
theorem tc5 : (5 : Int32).toNatClampNeg = 5 := rfl
theorem ib (n : Nat) {k : Nat} (h : k < n) (hn : n < 2 ^ 31) : inb (nI k) n = true := inb_nI h hn
theorem ib0 : inb 0 490 = true := by decide
theorem ib1 : inb 1 490 = true := by decide
theorem ib2 : inb 2 490 = true := by decide
theorem ib3 : inb 3 490 = true := by decide
theorem ib4 : inb 4 490 = true := by decide
theorem ib5 : inb 5 490 = true := by decide
theorem at_nI (j : Nat) : (6 : Int32) + 121 * nI j = nI (6 + 121 * j) := by
  show nI 6 + nI 121 * nI j = _
  rw [nI_mul, nI_add]
theorem at_ix (j w : Nat) : (6 : Int32) + 121 * nI j + nI w = nI (ix j w) := by
  rw [at_nI, nI_add]; rfl
theorem at_g (j g : Nat) : ((6 : Int32) + 121 * nI j) + 7 + 13 * nI g = nI (13 + 121 * j + 13 * g) := by
  rw [at_nI]
  show nI _ + nI 7 + nI 13 * nI g = _
  rw [nI_mul, nI_add, nI_add]; congr 1; omega
theorem at_gx (j g w : Nat) : ((6 : Int32) + 121 * nI j) + 7 + 13 * nI g + nI w = nI (gx j g w) := by
  rw [at_g, nI_add]; rfl
theorem at_cx (j a b : Nat) : ((6 : Int32) + 121 * nI j + 85) + 6 * nI a + nI b = nI (cx j a b) := by
  rw [at_nI]
  show nI _ + nI 85 + nI 6 * nI a + nI b = _
  rw [nI_mul, nI_add, nI_add, nI_add]; unfold cx; congr 1; omega
theorem m_of {j w : Nat} (hj : j < 4) (hw : w < 121) : fX10_of M (nI j) (nI w) = some (M 1 (ix j w)) := by
  unfold fX10_of fX10_at
  simp only [clp]
  rw [at_ix, grd_T (ib 490 (by unfold ix; omega) (by omega)), nI_clamp (by unfold ix; omega)]
theorem m_of0 {j : Nat} (hj : j < 4) : fX10_of M (nI j) 0 = some (M 1 (ix j 0)) := m_of hj (w := 0) (by omega)
theorem m_of1 {j : Nat} (hj : j < 4) : fX10_of M (nI j) 1 = some (M 1 (ix j 1)) := m_of hj (w := 1) (by omega)
theorem m_of2 {j : Nat} (hj : j < 4) : fX10_of M (nI j) 2 = some (M 1 (ix j 2)) := m_of hj (w := 2) (by omega)
theorem m_of3 {j : Nat} (hj : j < 4) : fX10_of M (nI j) 3 = some (M 1 (ix j 3)) := m_of hj (w := 3) (by omega)
theorem m_of4 {j : Nat} (hj : j < 4) : fX10_of M (nI j) 4 = some (M 1 (ix j 4)) := m_of hj (w := 4) (by omega)
theorem m_ofd {j d : Nat} (hj : j < 4) (hd : d < 2) : fX10_of M (nI j) (5 + nI d) = some (M 1 (ix j (5 + d))) := by
  rw [show (5 : Int32) + nI d = nI (5 + d) from nI_add 5 d]
  exact m_of hj (by omega)
theorem m_groupOf {j g w : Nat} (hj : j < 4) (hg : g < 6) (hw : w < 13) : fX10_groupOf M (nI j) (nI g) (nI w) = some (M 1 (gx j g w)) := by
  unfold fX10_groupOf fX10_groupAt
  simp only [clp]
  rw [at_gx, grd_T (ib 490 (by unfold gx; omega) (by omega)), nI_clamp (by unfold gx; omega)]
theorem m_g0 {j g : Nat} (hj : j < 4) (hg : g < 6) : fX10_groupOf M (nI j) (nI g) 0 = some (M 1 (gx j g 0)) := m_groupOf hj hg (w := 0) (by omega)
theorem m_g1 {j g : Nat} (hj : j < 4) (hg : g < 6) : fX10_groupOf M (nI j) (nI g) 1 = some (M 1 (gx j g 1)) := m_groupOf hj hg (w := 1) (by omega)
theorem m_g2 {j g : Nat} (hj : j < 4) (hg : g < 6) : fX10_groupOf M (nI j) (nI g) 2 = some (M 1 (gx j g 2)) := m_groupOf hj hg (w := 2) (by omega)
theorem m_g3 {j g : Nat} (hj : j < 4) (hg : g < 6) : fX10_groupOf M (nI j) (nI g) 3 = some (M 1 (gx j g 3)) := m_groupOf hj hg (w := 3) (by omega)
theorem m_g4 {j g : Nat} (hj : j < 4) (hg : g < 6) : fX10_groupOf M (nI j) (nI g) 4 = some (M 1 (gx j g 4)) := m_groupOf hj hg (w := 4) (by omega)
theorem m_g5 {j g : Nat} (hj : j < 4) (hg : g < 6) : fX10_groupOf M (nI j) (nI g) 5 = some (M 1 (gx j g 5)) := m_groupOf hj hg (w := 5) (by omega)
theorem m_gh {j g p : Nat} (hj : j < 4) (hg : g < 6) (hp : p < 3) : fX10_groupOf M (nI j) (nI g) (6 + nI p) = some (M 1 (gx j g (6 + p))) := by
  rw [show (6 : Int32) + nI p = nI (6 + p) from nI_add 6 p]
  exact m_groupOf hj hg (by omega)
theorem m_first {j p g : Nat} (hj : j < 4) (hp : p < 2) (hg : g < 6) : fX10_first M (nI j) (nI p) (nI g) = some (fs (M 1) j p g) := by
  unfold fX10_first
  rw [show (9 : Int32) + 2 * nI p = nI (9 + 2 * p) from by show nI 9 + nI 2 * nI p = _; rw [nI_mul, nI_add], m_groupOf hj hg (by omega)]
  rfl
theorem m_length {j p g : Nat} (hj : j < 4) (hp : p < 2) (hg : g < 6) : fX10_length M (nI j) (nI p) (nI g) = some (ln (M 1) j p g) := by
  unfold fX10_length
  rw [show (9 : Int32) + 2 * nI p + 1 = nI (10 + 2 * p) from by show nI 9 + nI 2 * nI p + nI 1 = _; rw [nI_mul, nI_add, nI_add]; congr 1; omega, m_groupOf hj hg (by omega)]
  rfl
theorem m_length0 {j g : Nat} (hj : j < 4) (hg : g < 6) : fX10_length M (nI j) 0 (nI g) = some (ln (M 1) j 0 g) := m_length hj (p := 0) (by omega) hg
theorem m_length1 {j g : Nat} (hj : j < 4) (hg : g < 6) : fX10_length M (nI j) 1 (nI g) = some (ln (M 1) j 1 g) := m_length hj (p := 1) (by omega) hg
theorem m_clear {j a b : Nat} (hj : j < 4) (ha : a < 6) (hb : b < 6) : fX10_clear M (nI j) (nI a) (nI b) = some (kl (M 1) j a b) := by
  unfold fX10_clear fX10_at
  simp only [clp]
  rw [at_cx, grd_T (ib 490 (by unfold cx; omega) (by omega)), nI_clamp (by unfold cx; omega)]
  rfl
theorem m_clears {j a b : Nat} (v : Int32) (hj : j < 4) (ha : a < 6) (hb : b < 6) : fX10_clears M (nI j) (nI a) (nI b) v = some ((), mset M 1 (cx j a b) v) := by
  unfold fX10_clears fX10_at
  simp only [clp, bnd]
  rw [at_cx, grd_T (ib 490 (by unfold cx; omega) (by omega)), nI_clamp (by unfold cx; omega)]
theorem m_isJunction (p : Int32) : fX10_isJunction M p = some (b01 (decide (0 ≤ p) && decide (p ≤ M 1 2 - 1))) := by
  unfold fX10_isJunction
  rw [grd_T ib2, tc2, f_in]
  simp only [clp, grd, isb_b01, if_true]
theorem m_isGroup_j {j : Nat} (hj : j < 4) (hl : (decide (0 ≤ nI j) && decide (nI j ≤ M 1 2 - 1)) = true) (g : Int32) : fX10_isGroup M (nI j) g = some (b01 (decide (0 ≤ g) && decide (g ≤ M 1 (ix j 2) - 1))) := by
  unfold fX10_isGroup
  rw [m_isJunction, hl, m_of2 hj]
  simp only [clp, jn, f_in, b01_ite]
  cases (decide (0 ≤ g) && decide (g ≤ M 1 (ix j 2) - 1)) <;> rfl
theorem m_isGroup_no {p : Int32} (hl : (decide (0 ≤ p) && decide (p ≤ M 1 2 - 1)) = false) (g : Int32) : fX10_isGroup M p g = some 0 := by
  unfold fX10_isGroup
  rw [m_isJunction, hl]
  rfl
theorem m_isPlan_j {p : Int32} (hl : (decide (0 ≤ p) && decide (p ≤ M 1 2 - 1)) = true) (q : Int32) : fX10_isPlan M p q = some (b01 (decide (0 ≤ q) && decide (q ≤ 1))) := by
  unfold fX10_isPlan
  rw [m_isJunction, hl]
  simp only [clp, jn, f_in, b01_ite]
  cases (decide (0 ≤ q) && decide (q ≤ 1)) <;> rfl
theorem m_isPlan_no {p : Int32} (hl : (decide (0 ≤ p) && decide (p ≤ M 1 2 - 1)) = false) (q : Int32) : fX10_isPlan M p q = some 0 := by
  unfold fX10_isPlan
  rw [m_isJunction, hl]
  rfl
theorem m_mod (v : Int32) (hc : 0 < (M 1 0).toInt) : fX10_mod M v = some (wr v (M 1 0)) := by
  unfold fX10_mod
  rw [grd_T ib0, tc0, f_floorMod M hc]; rfl
theorem m_local {j : Nat} (hj : j < 4) (t : Int32) (hc : 0 < (M 1 0).toInt) : fX10_local M (nI j) t = some (wr (t - M 1 (ix j 1)) (M 1 0)) := by
  unfold fX10_local
  rw [m_of1 hj]
  simp only [clp]
  rw [m_mod _ hc]
theorem m_on {j p g : Nat} (hj : j < 4) (hp : p < 2) (hg : g < 6) (s : Int32) (hc : 0 < (M 1 0).toInt) : fX10_isOn M (nI j) (nI p) (nI g) s = some (b01 (on (M 1) j p g s)) := by
  unfold fX10_isOn
  rw [m_first hj hp hg, m_length hj hp hg]
  simp only [clp, jn]
  rw [m_mod _ hc]
  simp only [not01]
  unfold on
  by_cases hx : wr (s - fs (M 1) j p g) (M 1 0) < ln (M 1) j p g
  · rw [if_pos hx, decide_eq_true hx]; rfl
  · rw [if_neg hx, decide_eq_false hx]; rfl
theorem m_shown {j p : Nat} (hj : j < 4) {n : Nat} (hn : M 1 (ix j 2) = nI n) (h6 : n ≤ 6) (hp : p < 2) (s : Int32) (hc : 0 < (M 1 0).toInt) : fX10_shown M (nI j) (nI p) s = some (bits (fun g => on (M 1) j p g s) n) := by
  unfold fX10_shown
  refine lp_at (fun i => (bits (fun g => on (M 1) j p g s) i, nI i)) n (by omega) rfl (fun i hi k => ?_) (fun k => ?_)
  · simp only [fX10_shown_L1]
    rw [m_of2 hj, hn]
    simp only [clp]
    rw [if_neg (nI_ge hi (by omega)), m_on hj hp (by omega) s hc]
    simp only [clp, jn, bnd, b01_ite, nI_1, bits]
    by_cases hb : on (M 1) j p i s = true <;> simp [hb]
  · simp only [fX10_shown_L1]
    rw [m_of2 hj, hn]
    simp only [clp]
    rw [if_pos (nI_le (Nat.le_refl _) (by omega))]
theorem m_gap {j p a b : Nat} (hj : j < 4) (hp : p < 2) (ha : a < 6) (hb : b < 6) (hc : 0 < (M 1 0).toInt) : fX10_gap M (nI j) (nI p) (nI a) (nI b) = some (wr (fs (M 1) j p b - fs (M 1) j p a - ln (M 1) j p a) (M 1 0)) := by
  unfold fX10_gap
  rw [m_first hj hp hb, m_first hj hp ha, m_length hj hp ha]
  simp only [clp]
  rw [m_mod _ hc]
theorem m_heads {j g : Nat} (hj : j < 4) (hg : g < 6) : fX10_heads M (nI j) (nI g) = some (nI (cn (fun p => hm (M 1) j g p) 3)) := by
  unfold fX10_heads
  refine lp_at (fun i => (nI (cn (fun p => hm (M 1) j g p) i), nI i)) 3 (by omega) rfl (fun i hi k => ?_) (fun k => ?_)
  · simp only [fX10_heads_L1]
    rw [if_neg (show ¬ (3 : Int32) ≤ nI i from nI_ge (b := 3) hi (by omega)), m_gh hj hg hi]
    simp only [clp, jn, bnd, nI_1, cn]
    by_cases hx : M 1 (gx j g (6 + i)) < 0
    · have hb : hm (M 1) j g i = false := decide_eq_false (by rw [ti_lt] at hx; rw [ti_le]; omega)
      rw [if_pos hx]; simp [hb]
    · have hb : hm (M 1) j g i = true := decide_eq_true (by rw [ti_lt] at hx; rw [ti_le]; omega)
      rw [if_neg hx]; simp [hb]
  · simp only [fX10_heads_L1]
    rw [if_pos (show (3 : Int32) ≤ nI 3 from nI_le (a := 3) (b := 3) (by omega) (by omega))]
theorem m_greens {j p : Nat} (hj : j < 4) {n : Nat} (hn : M 1 (ix j 2) = nI n) (h6 : n ≤ 6) (hp : p < 2) : fX10_greens M (nI j) (nI p) = some (nI (cn (fun g => gr (M 1) j p g) n)) := by
  unfold fX10_greens
  refine lp_at (fun i => (nI (cn (fun g => gr (M 1) j p g) i), nI i)) n (by omega) rfl (fun i hi k => ?_) (fun k => ?_)
  · simp only [fX10_greens_L1]
    rw [m_of2 hj, hn]
    simp only [clp]
    rw [if_neg (nI_ge hi (by omega)), m_length hj hp (by omega)]
    simp only [clp, jn, bnd, nI_1, cn]
    by_cases hx : ln (M 1) j p i ≤ 0
    · have hb : gr (M 1) j p i = false := decide_eq_false (by rw [ti_le] at hx; rw [ti_lt]; omega)
      rw [if_pos hx]; simp [hb]
    · have hb : gr (M 1) j p i = true := decide_eq_true (by rw [ti_le] at hx; rw [ti_lt]; omega)
      rw [if_neg hx]; simp [hb]
  · simp only [fX10_greens_L1]
    rw [m_of2 hj, hn]
    simp only [clp]
    rw [if_pos (nI_le (Nat.le_refl _) (by omega))]
theorem m_waiting {j : Nat} (hj : j < 4) {n : Nat} (hn : M 1 (ix j 2) = nI n) (h6 : n ≤ 6) : fX10_waiting M (nI j) = some (nI (cn (fun g => wt (M 1) j g) n)) := by
  unfold fX10_waiting
  refine lp_at (fun i => (nI (cn (fun g => wt (M 1) j g) i), nI i)) n (by omega) rfl (fun i hi k => ?_) (fun k => ?_)
  · simp only [fX10_waiting_L1]
    rw [m_of2 hj, hn]
    simp only [clp]
    rw [if_neg (nI_ge hi (by omega)), m_g4 hj (by omega)]
    simp only [clp, jn, bnd, nI_1, cn]
    by_cases hx : M 1 (gx j i 4) < 0
    · have hb : wt (M 1) j i = false := decide_eq_false (by rw [ti_lt] at hx; rw [ti_le]; omega)
      rw [if_pos hx]; simp [hb]
    · have hb : wt (M 1) j i = true := decide_eq_true (by rw [ti_lt] at hx; rw [ti_le]; omega)
      rw [if_neg hx]; simp [hb]
  · simp only [fX10_waiting_L1]
    rw [m_of2 hj, hn]
    simp only [clp]
    rw [if_pos (nI_le (Nat.le_refl _) (by omega))]
theorem m_puts {j p g : Nat} (f l : Int32) (hj : j < 4) (hp : p < 2) (hg : g < 6) : fX10_puts M (nI j) (nI p) (nI g) f l = some ((), mset (mset M 1 (gx j g (9 + 2 * p)) f) 1 (gx j g (10 + 2 * p)) l) := by
  unfold fX10_puts fX10_groupAt
  simp only [clp, bnd]
  rw [at_g, show nI (13 + 121 * j + 13 * g) + 9 + 2 * nI p = nI (gx j g (9 + 2 * p)) from by show nI _ + nI 9 + nI 2 * nI p = _; rw [nI_mul, nI_add, nI_add]; unfold gx; congr 1; omega, show nI (gx j g (9 + 2 * p)) + 1 = nI (gx j g (10 + 2 * p)) from by rw [nI_1]; unfold gx; congr 1; omega, grd_T (ib 490 (by unfold gx; omega) (by omega)), grd_T (ib 490 (by unfold gx; omega) (by omega)), nI_clamp (by unfold gx; omega), nI_clamp (by unfold gx; omega)]
theorem m_isGreen (f l : Int32) : fX10_isGreen M f l = some (b01 ((decide (0 ≤ f) && decide (f ≤ M 1 0 - 1)) && (decide (1 ≤ l) && decide (l ≤ M 1 0)))) := by
  unfold fX10_isGreen
  simp only [grd_T ib0, tc0, clp, jn, f_in, b01_ite]
  cases (decide (0 ≤ f) && decide (f ≤ M 1 0 - 1)) <;> cases (decide (1 ≤ l) && decide (l ≤ M 1 0)) <;> rfl
end RM
