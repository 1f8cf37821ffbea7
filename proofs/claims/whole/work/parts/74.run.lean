/-! call: run : one second, the reference -/
/-- the reference's state array put in place -/
def m1 (N : Mem) (A : Ar) : Mem := fun o => if o = 1 then A else N o
theorem m1_1 (N : Mem) (A : Ar) : m1 N A 1 = A := if_pos rfl
theorem m1_o (N : Mem) (A : Ar) {o : Nat} (h : o ≠ 1) : m1 N A o = N o := if_neg h
theorem m1_self (N : Mem) : m1 N (N 1) = N := by
  funext o; unfold m1; split
  · rename_i h; rw [h]
  · rfl
theorem m1_m1 (N : Mem) (A B : Ar) : m1 (m1 N A) B = m1 N B := by
  funext o; unfold m1; split <;> rfl
theorem m1_set (N : Mem) (A : Ar) (k : Nat) (v : Int32) : mset (m1 N A) 1 k v = m1 N (upd A k v) := by
  funext o
  by_cases h : o = 1
  · subst h; rw [ms_same, m1_1, m1_1]
  · rw [ms_other _ _ _ h, m1_o _ _ h, m1_o _ _ h]
theorem m_gAt {M : Mem} {j i : Nat} : fX10_groupAt M (nI j) (nI i) = some (nI (gx j i 0)) := by
  unfold fX10_groupAt
  rw [at_g]; rfl
theorem gx_2 (j i : Nat) : nI (gx j i 0) + 2 = nI (gx j i 2) := nI_add _ 2
theorem gx_3 (j i : Nat) : nI (gx j i 0) + 3 = nI (gx j i 3) := nI_add _ 3
theorem gx_4 (j i : Nat) : nI (gx j i 0) + 4 = nI (gx j i 4) := nI_add _ 4
theorem gx_5 (j i : Nat) : nI (gx j i 0) + 5 = nI (gx j i 5) := nI_add _ 5
section P74
variable {N : Mem} {j n p : Nat} {A B : Ar} {s : Int32}
theorem m_l1 (gvB : GV B j) {i : Nat} (hj : j < 4) (hi : i < n) (hn : B (ix j 2) = nI n) (h6 : n ≤ 6) (hp : p < 2) (hc : 0 < (B 0).toInt) (y : Int32 × Mem) (k11 : (Int32 × Mem) → Option (Int32 × Mem)) (k14 : (Int32 × Int32 × Mem) → Option (Int32 × Mem)) (x : Int32) : fX10_passes_L1 (y.1, nI j, y.2) (nI p) s k11 k14 (x, nI i, m1 N (LT B j p s i)) = k14 (x + (if sd B j p s i then 1 else 0), nI (i + 1), m1 N (LT B j p s (i + 1))) := by
  have g6 : i < 6 := by omega
  have e2 : m1 N (LT B j p s i) 1 (ix j 2) = nI n := by rw [m1_1, LT_i (by omega)]; exact hn
  have c0 : 0 < (m1 N (LT B j p s i) 1 0).toInt := by rw [m1_1, LT_n (by omega)]; exact hc
  have er : LT B j p s i (gx j i 2) = B (gx j i 2) := LT_g (by omega) (by omega)
  have e3 : LT B j p s i (gx j i 3) = B (gx j i 3) := LT_g (by omega) (by omega)
  have e4 : LT B j p s i (gx j i 4) = B (gx j i 4) := LT_g (by omega) (by omega)
  have e5 : LT B j p s i (gx j i 5) = B (gx j i 5) := LT_g (by omega) (by omega)
  have ef : fs (LT B j p s i) j p i = fs B j p i := by unfold fs; rw [LT_g (by omega) (by omega)]
  have et : LT B j p s i 3 = B 3 := LT_n (by omega)
  have hgv := gvB i g6
  have hlg : LT B j p s (i + 1) = lg1 B (LT B j p s i) j p s i := rfl
  have ib0' : ∀ w, w < 13 → inb (nI (gx j i w)) 490 = true := fun w hw => inb_nI (by unfold gx; omega) (by omega)
  have ncl : ∀ w, w < 13 → (nI (gx j i w)).toNatClampNeg = gx j i w := fun w hw => nI_clamp (by unfold gx; omega)
  have hw0 : (B (gx j i 4) < 0) = (wt B j i = false) := by
    unfold wt; rw [decide_eq_false_iff_not, ti_lt, ti_le]; apply propext; constructor <;> intro <;> omega
  have hon : fX10_isOn (m1 N (LT B j p s i)) (nI j) (nI p) (nI i) s = some (b01 (on B j p i s)) := by rw [m_on hj hp g6 s c0, m1_1, LT_on hp]
  simp only [fX10_passes_L1]
  rw [m_of2 hj, e2, clp_e, if_neg (nI_ge hi (by omega)), hon, clp_e, jn_e, b01_ite, hlg]
  have q : ∀ (X : Ar) (k : Nat) (v : Int32), X k = v → m1 N X 1 k = v := fun X k v h => by rw [m1_1]; exact h
  have q2 := q _ _ _ er
  have q3 := q _ _ _ e3
  have q4 := q _ _ _ e4
  have q5 := q _ _ _ e5
  by_cases ho : on B j p i s = true
  · rw [if_pos ho, m_gAt, clp_e, gx_2, gx_3, gx_4, gx_5, grd_T (ib0' 2 (by omega)), ncl 2 (by omega), ncl 3 (by omega), ncl 4 (by omega), ncl 5 (by omega), q2]
    rcases bt01 hgv.1 with hr | hr
    · have hr' : rq B j i = false := by unfold rq; rw [hr]; rfl
      have hsd : sd B j p s i = false := by unfold sd; simp [hr']
      rw [if_pos hr, grd_T (ib0' 3 (by omega)), grd_T (ib0' 3 (by omega)), q3, bnd_e, m1_set]
      try dsimp only
      rw [bnd_e, nI_1, hsd, if_neg (by decide), Int32.add_zero]
      unfold lg1
      rw [if_pos ho, if_neg (by rw [hr']; decide)]
    · have hr' : rq B j i = true := by unfold rq; rw [hr]; rfl
      have m3 : fX10_first (m1 N (LT B j p s i)) (nI j) (nI p) (nI i) = some (fs B j p i) := by rw [m_first hj hp g6, m1_1, ef]
      rw [if_neg (by rw [hr]; decide), m3, clp_e, jn_e, grd_T (ib0' 4 (by omega)), jn_e]
      try dsimp only
      unfold lg1
      rw [if_pos ho, if_pos hr']
      by_cases hs : s = fs B j p i
      · rw [if_pos hs, if_pos hs]
        by_cases hw : wt B j i = true
        · have hsd : sd B j p s i = true := by unfold sd; rw [ho, hr', hw, decide_eq_true hs]; rfl
          have hw1 : ¬ (B (gx j i 4) < 0) := by rw [hw0]; simp [hw]
          have u0 : upd (LT B j p s i) (gx j i 5) 1 (gx j i 4) = B (gx j i 4) := by rw [pk_un (fun z => by have := gx_inj (by omega) (by omega) z; omega)]; exact e4
          have u1 : upd (LT B j p s i) (gx j i 5) 1 4 = LT B j p s i 4 := pk_un (by unfold gx; omega)
          have u2 : upd (upd (LT B j p s i) (gx j i 5) 1) 4 (LT B j p s i 4 + 1) 5 = LT B j p s i 5 := by rw [pk_un (by omega), pk_un (by unfold gx; omega)]
          have u3 : upd (upd (LT B j p s i) (gx j i 5) 1) 4 (LT B j p s i 4 + 1) 3 = B 3 := by rw [pk_un (by omega), pk_un (by unfold gx; omega)]; exact et
          have u4 : upd (upd (LT B j p s i) (gx j i 5) 1) 4 (LT B j p s i 4 + 1) (gx j i 4) = B (gx j i 4) := by rw [pk_un (by unfold gx; omega)]; exact u0
          obtain ⟨Z, hZ⟩ : ∃ z, z = upd (upd (upd (upd (LT B j p s i) (gx j i 5) 1) 4 (LT B j p s i 4 + 1)) 5 (LT B j p s i 5 + (B 3 - B (gx j i 4)))) (gx j i 4) (-1) := ⟨_, rfl⟩
          have z3 : Z (gx j i 3) = B (gx j i 3) := by
            rw [hZ, pk_un (fun z => by have := gx_inj (by omega) (by omega) z; omega), pk_un (by unfold gx; omega), pk_un (by unfold gx; omega), pk_un (fun z => by have := gx_inj (by omega) (by omega) z; omega)]; exact e3
          have z5 : Z (gx j i 5) = 1 := by
            rw [hZ, pk_un (fun z => by have := gx_inj (by omega) (by omega) z; omega), pk_un (by unfold gx; omega), pk_un (by unfold gx; omega), up_at, if_pos rfl]
          rw [if_neg (show ¬ m1 N (LT B j p s i) 1 (gx j i 4) < 0 by rw [q4]; exact hw1)]
          try dsimp only
          rw [grd_T (ib0' 5 (by omega)), bnd_e, m1_set, grd_T (ib0' 4 (by omega)), if_neg (show ¬ m1 N (upd (LT B j p s i) (gx j i 5) 1) 1 (gx j i 4) < 0 by rw [q _ _ _ u0]; exact hw1), bnd_e, grd_T ib4, grd_T ib4, tc4, q _ _ _ u1, bnd_e, m1_set, grd_T ib5, grd_T ib3, grd_T (ib0' 4 (by omega)), grd_T ib5, tc5, tc3, q _ _ _ u2, q _ _ _ u3, q _ _ _ u4, bnd_e, m1_set, grd_T (ib0' 4 (by omega)), bnd_e, m1_set, ← hZ]
          try dsimp only
          rw [grd_T (ib0' 3 (by omega)), grd_T (ib0' 5 (by omega)), grd_T (ib0' 3 (by omega)), q _ _ _ z3, q _ _ _ z5, bnd_e, m1_set]
          try dsimp only
          rw [bnd_e, nI_1, hsd, if_pos rfl, if_pos hw]
        · have hw' := Bool.not_eq_true _ |>.mp hw
          have hsd : sd B j p s i = false := by unfold sd; simp [hw']
          have hw1 : B (gx j i 4) < 0 := by rw [hw0]; exact hw'
          have u0 : upd (LT B j p s i) (gx j i 5) 0 (gx j i 4) = B (gx j i 4) := by rw [pk_un (fun z => by have := gx_inj (by omega) (by omega) z; omega)]; exact e4
          have z3 : upd (LT B j p s i) (gx j i 5) 0 (gx j i 3) = B (gx j i 3) := by rw [pk_un (fun z => by have := gx_inj (by omega) (by omega) z; omega)]; exact e3
          have z5 : upd (LT B j p s i) (gx j i 5) 0 (gx j i 5) = 0 := by rw [up_at, if_pos rfl]
          rw [if_pos (show m1 N (LT B j p s i) 1 (gx j i 4) < 0 by rw [q4]; exact hw1)]
          try dsimp only
          rw [grd_T (ib0' 5 (by omega)), bnd_e, m1_set, grd_T (ib0' 4 (by omega)), if_pos (show m1 N (upd (LT B j p s i) (gx j i 5) 0) 1 (gx j i 4) < 0 by rw [q _ _ _ u0]; exact hw1)]
          try dsimp only
          rw [grd_T (ib0' 3 (by omega)), grd_T (ib0' 5 (by omega)), grd_T (ib0' 3 (by omega)), q _ _ _ z3, q _ _ _ z5, bnd_e, m1_set]
          try dsimp only
          rw [bnd_e, nI_1, hsd, if_neg (by decide), if_neg hw, Int32.add_zero, Int32.add_zero]
      · have hsd : sd B j p s i = false := by unfold sd; simp [hs]
        rw [if_neg hs, if_neg hs]
        try dsimp only
        rw [grd_T (ib0' 3 (by omega)), grd_T (ib0' 5 (by omega)), grd_T (ib0' 3 (by omega)), q3, q5, bnd_e, m1_set]
        try dsimp only
        rw [bnd_e, nI_1, hsd, if_neg (by decide), Int32.add_zero]
  · have hsd : sd B j p s i = false := by unfold sd; simp [ho]
    rw [if_neg ho]
    try dsimp only
    rw [bnd_e, nI_1, hsd, if_neg (by decide), Int32.add_zero]
    unfold lg1
    rw [if_neg ho]
/-- the plan, second and size of a junction -/
def plo (A : Ar) (j : Nat) : Nat := (A (ix j 3)).toNatClampNeg
def szo (A : Ar) (j : Nat) : Nat := (A (ix j 2)).toNatClampNeg
def seo (A : Ar) (j : Nat) : Int32 := wr (A 3 - A (ix j 1)) (A 0)
def sdo (A : Ar) (j : Nat) : Int32 := nI (cn (sd A j (plo A j) (seo A j)) (szo A j))
def lja (A : Ar) (j : Nat) : Ar := LT A j (plo A j) (seo A j) (szo A j)
/-- what a second asks of a junction -/
def OKJ (A : Ar) (j : Nat) : Prop := GV A j ∧ szo A j ≤ 6 ∧ A (ix j 2) = nI (szo A j) ∧ plo A j < 2 ∧ A (ix j 3) = nI (plo A j)
theorem m_l2 (ok : OKJ B j) {c : Nat} (hj : j < c) (h4 : c ≤ 4) (hB2 : B 2 = nI c) (hc : 0 < (B 0).toInt) (k4 : (Int32 × Mem) → Option (Int32 × Mem)) (k7 : (Int32 × Int32 × Mem) → Option (Int32 × Mem)) (x : Int32) : fX10_passes_L2 k4 k7 (x, nI j, m1 N B) = k7 (x + sdo B j, nI (j + 1), m1 N (lja B j)) := by
  obtain ⟨gvB, h6, hn, hp, hpp⟩ := ok
  simp only [fX10_passes_L2]
  rw [grd_T ib2, tc2, m1_1, hB2, if_neg (nI_ge hj (by omega)), m_of3 (by omega), clp_e, grd_T ib3, tc3, m_local (by omega) _ (by rw [m1_1]; exact hc), clp_e, jn_e, m1_1, hpp]
  refine lp_at (fun i => (x + nI (cn (sd B j (plo B j) (seo B j)) i), nI i, m1 N (LT B j (plo B j) (seo B j) i))) (szo B j) (by omega) ?_ (fun i hi k => ?_) (fun k => ?_)
  · show (x, 0, m1 N B) = (x + nI 0, nI 0, m1 N B)
    rw [show nI 0 = 0 from rfl, Int32.add_zero]
  · have := m_l1 (N := N) (s := seo B j) gvB (show j < 4 by omega) hi hn h6 hp hc (x, m1 N B) (fun a10 => bnd (nI j + 1) (fun x12 => k7 (a10.1, x12, a10.2))) k (x + nI (cn (sd B j (plo B j) (seo B j)) i))
    refine this.trans ?_
    rw [cn_1, Int32.add_assoc]
  · simp only [fX10_passes_L1]
    have e2 : m1 N (LT B j (plo B j) (seo B j) (szo B j)) 1 (ix j 2) = nI (szo B j) := by rw [m1_1, LT_i (by omega)]; exact hn
    rw [m_of2 (by omega), e2, clp_e, if_pos (nI_le (Nat.le_refl _) (by omega))]
    try dsimp only
    rw [bnd_e, nI_1]
    rfl
/-- all plans that fall due -/
def cA (A : Ar) : Nat → Ar
  | 0 => A
  | i + 1 => chg (cA A i) i
def rA (C : Ar) : Nat → Ar
  | 0 => C
  | i + 1 => lja (rA C i) i
def sA (C : Ar) : Nat → Int32
  | 0 => 0
  | i + 1 => sA C i + sdo (rA C i) i
def c3m (N : Mem) (B : Ar) (j : Nat) : Nat → Ar
  | 0 => B
  | i + 1 => upd (c3m N B j i) (gx j i 5) 0
theorem c3_at {k : Nat} : ∀ i, c3m N B j i k = if 13 + 121 * j ≤ k ∧ k < 13 + 121 * j + 13 * i ∧ (k - (13 + 121 * j)) % 13 = 5 then 0 else B k
  | 0 => by rw [if_neg (by omega)]; rfl
  | i + 1 => by
    show upd (c3m N B j i) (gx j i 5) 0 k = _
    rw [up_at, c3_at i]
    by_cases h : k = gx j i 5
    · rw [if_pos h, if_pos (by unfold gx at h; omega)]
    · rw [if_neg h]
      by_cases h2 : 13 + 121 * j ≤ k ∧ k < 13 + 121 * j + 13 * i ∧ (k - (13 + 121 * j)) % 13 = 5
      · rw [if_pos h2, if_pos (by omega)]
      · rw [if_neg h2, if_neg (by unfold gx at h; omega)]
theorem m_l4 {c : Nat} (hj : j < c) (h4 : c ≤ 4) (hB2 : B 2 = nI c) (h6 : n ≤ 6) (hn : B (ix j 2) = nI n) (hz : ∀ g, n ≤ g → g < 6 → B (gx j g 5) = 0) (k2 : Mem → Option (Int32 × Mem)) (k34 : (Int32 × Mem) → Option (Int32 × Mem)) : fX10_passes_L4 k2 k34 (nI j, m1 N B) = k34 (nI (j + 1), m1 N (chg B j)) := by
  simp only [fX10_passes_L4]
  rw [grd_T ib2, tc2, m1_1, hB2, if_neg (nI_ge hj (by omega)), m_of4 (by omega), clp_e, grd_T ib3, tc3, jn_e, m1_1]
  by_cases e : B (ix j 4) = B 3
  · rw [if_pos e]
    unfold fX10_at
    simp only [clp_e]
    rw [m_of3 (by omega), clp_e, show (6 : Int32) + 121 * nI j + 3 = nI (ix j 3) from at_ix j 3, show (6 : Int32) + 121 * nI j + 4 = nI (ix j 4) from at_ix j 4, grd_T (ib 490 (by unfold ix; omega) (by omega)), nI_clamp (by unfold ix; omega), bnd_e, m1_set, grd_T (ib 490 (by unfold ix; omega) (by omega)), nI_clamp (by unfold ix; omega), bnd_e, m1_set, m1_1]
    obtain ⟨Z, hZ⟩ : ∃ z, z = upd (upd B (ix j 3) (1 - B (ix j 3))) (ix j 4) (-1) := ⟨_, rfl⟩
    rw [← hZ]
    have hZ2 : Z (ix j 2) = nI n := by rw [hZ, pk_un (by unfold ix; omega), pk_un (by unfold ix; omega)]; exact hn
    refine lp_at (fun i => (nI i, m1 N (c3m N Z j i))) n (by omega) rfl (fun i hi k => ?_) (fun k => ?_)
    · simp only [fX10_passes_L3]
      rw [m_of2 (by omega), m1_1, c3_at, if_neg (by unfold ix; omega), hZ2, clp_e, if_neg (nI_ge hi (by omega)), m_gAt, clp_e, gx_5, grd_T (ib 490 (by unfold gx; omega) (by omega)), nI_clamp (by unfold gx; omega), bnd_e, m1_set, bnd_e, nI_1]
      rfl
    · simp only [fX10_passes_L3]
      rw [m_of2 (by omega), m1_1, c3_at, if_neg (by unfold ix; omega), hZ2, clp_e, if_pos (nI_le (Nat.le_refl _) (by omega)), bnd_e, nI_1]
      have ee : c3m N Z j n = chg B j := by
        funext k
        rw [c3_at]
        unfold chg
        rw [if_pos e]
        by_cases a3 : k = ix j 3
        · rw [if_neg (by unfold ix at a3; omega), if_pos a3, hZ, a3, pk_un (by unfold ix; omega), up_at, if_pos rfl]
        · rw [if_neg a3]
          by_cases a4 : k = ix j 4
          · rw [if_neg (by unfold ix at a4; omega), if_pos a4, hZ, a4, up_at, if_pos rfl]
          · rw [if_neg a4]
            have hk : Z k = B k := by rw [hZ, pk_un a4, pk_un a3]
            rw [hk]
            by_cases a5 : 13 + 121 * j ≤ k ∧ k < 91 + 121 * j ∧ (k - (13 + 121 * j)) % 13 = 5
            · rw [if_pos a5]
              by_cases a6 : k < 13 + 121 * j + 13 * n
              · rw [if_pos ⟨a5.1, a6, a5.2.2⟩]
              · rw [if_neg (fun z => a6 z.2.1)]
                have := hz ((k - (13 + 121 * j)) / 13) (by omega) (by omega)
                rw [show gx j ((k - (13 + 121 * j)) / 13) 5 = k by unfold gx; omega] at this
                exact this
            · rw [if_neg a5, if_neg (fun z => a5 ⟨z.1, by omega, z.2.2⟩)]
      rw [ee]
  · rw [if_neg e]
    try dsimp only
    rw [bnd_e, nI_1]
    unfold chg
    rw [if_neg e]
end P74
