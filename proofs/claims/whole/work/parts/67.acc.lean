/-! call: account -/
def sI (f : Nat → Int32) : Nat → Int32
  | 0 => 0
  | n + 1 => sI f n + f n
theorem sI_cong {f g : Nat → Int32} : ∀ n, (∀ i, i < n → f i = g i) → sI f n = sI g n
  | 0, _ => rfl
  | n + 1, h => by unfold sI; rw [sI_cong n (fun i hi => h i (by omega)), h n (by omega)]
def szj (A : Ar) (j : Nat) : Nat := (A (ix j 2)).toNatClampNeg
def am1 (A : Ar) (j : Nat) : Int32 := A (ix j 2)
def am2 (A : Ar) (j : Nat) : Int32 := nI (cfs A j (szj A j))
def am3 (A : Ar) (j : Nat) : Int32 := nI (cn (fun g => gr A j 0 g) (szj A j)) + nI (cn (fun g => gr A j 1 g) (szj A j))
def am5 (A : Ar) (j : Nat) : Int32 := sI (fun g => A (gx j g 3)) (szj A j)
def am7 (A : Ar) (j : Nat) : Int32 := nI (cn (fun g => wt A j g) (szj A j))
def am9 (A : Ar) (j : Nat) : Int32 := if A (ix j 4) < 0 then 0 else 1
def am10 (A : Ar) (j : Nat) : Int32 := sI (fun g => nI (cn (fun p => hm A j g p) 3)) (szj A j)
theorem szj_e {A : Ar} {j : Nat} (v : VJ A j) : A (ix j 2) = nI (szj A j) ∧ szj A j ≤ 6 := by
  obtain ⟨n, h6, hn⟩ := v.sz
  have : szj A j = n := by unfold szj; rw [hn, nI_clamp (by omega)]
  rw [this]; exact ⟨hn, h6⟩
/-! the class -/
section AccX
variable {M : Mem} {A : Ar}
theorem x_sumOf {w : Int32} {f : Nat → Int32} (hR : RS M 1 A) {n : Nat} (hn : A 2 = nI n) (hn4 : n ≤ 4) (h : ∀ j, j < n → fX2_amountOf M (1 + 2 + 10 * j) w = some (f j)) : fX6_sumOf M 1 w = some (sI f n) := by
  unfold fX6_sumOf
  refine lp_at (fun i => (sI f i, nI i)) n (by omega) rfl (fun i hi k => ?_) (fun k => ?_)
  · simp only [fX6_sumOf_L1]
    rw [if_neg (by rw [hR.w3, hn]; exact nI_ge hi (by omega)), grd_T (inb_nI (by omega) (by omega)), nI_clamp (by omega), h i hi, clp_e, bnd_e, bnd_e, nI_1]
    rfl
  · simp only [fX6_sumOf_L1]
    rw [if_pos (by rw [hR.w3, hn]; exact nI_le (Nat.le_refl _) (by omega))]
variable {J j : Nat}
theorem x_am1 (h : RJ M J A j) : fX2_amountOf M J 1 = some (am1 A j) := by
  unfold fX2_amountOf am1
  rw [if_pos rfl, h.w (by omega)]
theorem x_am2 (h : RJ M J A j) (v : VJ A j) (hl : nI j < A 2) : fX2_amountOf M J 2 = some (am2 A j) := by
  obtain ⟨hn, h6⟩ := szj_e v
  unfold fX2_amountOf am2
  rw [if_neg (by decide), if_pos rfl, x_conflictCount h hl v hn h6, clp_e]
theorem x_am3 (h : RJ M J A j) (v : VJ A j) : fX2_amountOf M J 3 = some (am3 A j) := by
  obtain ⟨hn, h6⟩ := szj_e v
  have e0 : fX2_greenCount M J 0 = _ := x_greenCount h hn h6 (p := 0) (by omega)
  have e1 : fX2_greenCount M J 1 = _ := x_greenCount h hn h6 (p := 1) (by omega)
  unfold fX2_amountOf am3
  rw [if_neg (by decide), if_neg (by decide), if_pos rfl, e0, clp_e, e1, clp_e]
theorem x_am5 (h : RJ M J A j) (v : VJ A j) : fX2_amountOf M J 5 = some (am5 A j) := by
  obtain ⟨hn, h6⟩ := szj_e v
  have e : fX2_litSum M J = some (am5 A j) := by
    unfold fX2_litSum am5
    refine lp_at (fun i => (sI (fun g => A (gx j g 3)) i, nI i)) (szj A j) (by omega) rfl (fun i hi k => ?_) (fun k => ?_)
    · simp only [fX2_litSum_L1]
      rw [if_neg (by rw [h.w (by omega), hn]; exact nI_ge hi (by omega)), grd_T (inb_nI (by omega) (by omega)), nI_clamp (by omega), h.lt (by omega), bnd_e, bnd_e, nI_1]
      rfl
    · simp only [fX2_litSum_L1]
      rw [if_pos (by rw [h.w (by omega), hn]; exact nI_le (Nat.le_refl _) (by omega))]
  unfold fX2_amountOf
  rw [if_neg (by decide), if_neg (by decide), if_neg (by decide), if_neg (by decide), if_pos rfl, e, clp_e]
theorem x_am6 : fX2_amountOf M J 6 = some (M J 5) := by
  unfold fX2_amountOf
  rw [if_neg (by decide), if_neg (by decide), if_neg (by decide), if_neg (by decide), if_neg (by decide), if_pos rfl]
theorem x_am7 (h : RJ M J A j) (v : VJ A j) : fX2_amountOf M J 7 = some (am7 A j) := by
  obtain ⟨hn, h6⟩ := szj_e v
  unfold fX2_amountOf am7
  rw [if_neg (by decide), if_neg (by decide), if_neg (by decide), if_neg (by decide), if_neg (by decide), if_neg (by decide), if_pos rfl, x_waitingCount h v hn h6, clp_e]
theorem x_am8 : fX2_amountOf M J 8 = some (M J 6) := by
  unfold fX2_amountOf
  rw [if_neg (by decide), if_neg (by decide), if_neg (by decide), if_neg (by decide), if_neg (by decide), if_neg (by decide), if_neg (by decide), if_pos rfl]
theorem x_am9 (h : RJ M J A j) (v : VJ A j) (hl : nI j < A 2) : fX2_amountOf M J 9 = some (am9 A j) := by
  have b := v.2.2.2.2.1
  unfold fX2_amountOf am9 fX2_isChangePlanned
  rw [if_neg (by decide), if_neg (by decide), if_neg (by decide), if_neg (by decide), if_neg (by decide), if_neg (by decide), if_neg (by decide), if_neg (by decide), if_pos rfl, jn_e, h.ch hl]
  by_cases c : A (ix j 4) = -1
  · rw [if_pos c, if_pos (by rw [c]; decide)]; rfl
  · rw [if_neg c, if_neg (by rw [← neg_dec b]; exact c)]; rfl
theorem x_am10 (h : RJ M J A j) (v : VJ A j) : fX2_amountOf M J 10 = some (am10 A j) := by
  obtain ⟨hn, h6⟩ := szj_e v
  have e : fX2_headSum M J = some (am10 A j) := by
    unfold fX2_headSum am10
    refine lp_at (fun i => (sI (fun g => nI (cn (fun p => hm A j g p) 3)) i, nI i)) (szj A j) (by omega) rfl (fun i hi k => ?_) (fun k => ?_)
    · simp only [fX2_headSum_L1]
      rw [if_neg (by rw [h.w (by omega), hn]; exact nI_ge hi (by omega)), x_headCount h v (by omega) (by rw [hn]; exact nI_lt hi (by omega)), clp_e, bnd_e, bnd_e, nI_1]
      rfl
    · simp only [fX2_headSum_L1]
      rw [if_pos (by rw [h.w (by omega), hn]; exact nI_le (Nat.le_refl _) (by omega))]
  unfold fX2_amountOf
  rw [if_neg (by decide), if_neg (by decide), if_neg (by decide), if_neg (by decide), if_neg (by decide), if_neg (by decide), if_neg (by decide), if_neg (by decide), if_neg (by decide), if_pos rfl, e, clp_e]
end AccX
/-! the reference -/
section AccM
variable {N : Mem} {j n : Nat}
theorem m_acc_in1 (x a : Int32) (hj : j < 4) (hn : N 1 (ix j 2) = nI n) (h6 : n ≤ 6) (k : Int32 → Option (Int32 × Mem)) : lp (fX10_account_L15 1 N (x, nI j) k) FU (a, 0) = k (a) := by
  refine lp_at (fun i => (a, nI i)) n (by omega) (rfl) (fun i hi k' => ?_) (fun k' => ?_)
  · simp only [fX10_account_L15, jn_e, bnd_e]
    rw [m_of2 hj, hn, clp_e, if_neg (nI_ge hi (by omega))]
    simp only [if_neg (show ¬ (1 : Int32) = 5 by decide), if_neg (show ¬ (1 : Int32) = 10 by decide), nI_1]
    
  · simp only [fX10_account_L15, jn_e, bnd_e]
    rw [m_of2 hj, hn, clp_e, if_pos (nI_le (Nat.le_refl _) (by omega))]
theorem m_acc1 (V : Val (N 1)) (hn : N 1 2 = nI n) (hn4 : n ≤ 4) : lp (fX10_account_L16 1 N) FU (0, 0) = some (sI (am1 (N 1)) n, N) := by
  refine lp_at (fun i => (sI (am1 (N 1)) i, nI i)) n (by omega) rfl (fun i hi k => ?_) (fun k => ?_)
  · have hi4 : i < 4 := by omega
    obtain ⟨hz, h6⟩ := szj_e (V.2.1 i hi4 (by rw [hn]; exact nI_lt hi (by omega)))
    simp only [fX10_account_L16, jn_e, bnd_e, grd_T ib2, tc2, hn]
    rw [if_neg (nI_ge hi (by omega))]
    simp only [if_neg (show ¬ (1 : Int32) = 2 by decide), if_neg (show ¬ (1 : Int32) = 3 by decide), if_neg (show ¬ (1 : Int32) = 7 by decide), if_neg (show ¬ (1 : Int32) = 9 by decide), nI_1]
    rw [if_pos True.intro, m_of2 hi4, clp_e, m_acc_in1 _ _ hi4 hz h6]
    rfl
  · simp only [fX10_account_L16, jn_e, bnd_e, grd_T ib2, tc2, hn]
    rw [if_pos (nI_le (Nat.le_refl _) (by omega))]
theorem m_acc_in2 (x a : Int32) (hj : j < 4) (hn : N 1 (ix j 2) = nI n) (h6 : n ≤ 6) (k : Int32 → Option (Int32 × Mem)) : lp (fX10_account_L13 2 N (x, nI j) k) FU (a, 0) = k (a) := by
  refine lp_at (fun i => (a, nI i)) n (by omega) (rfl) (fun i hi k' => ?_) (fun k' => ?_)
  · simp only [fX10_account_L13, jn_e, bnd_e]
    rw [m_of2 hj, hn, clp_e, if_neg (nI_ge hi (by omega))]
    simp only [if_neg (show ¬ (2 : Int32) = 5 by decide), if_neg (show ¬ (2 : Int32) = 10 by decide), nI_1]
    
  · simp only [fX10_account_L13, jn_e, bnd_e]
    rw [m_of2 hj, hn, clp_e, if_pos (nI_le (Nat.le_refl _) (by omega))]
theorem m_acc2 (V : Val (N 1)) (hn : N 1 2 = nI n) (hn4 : n ≤ 4) : lp (fX10_account_L14 2 N) FU (0, 0) = some (sI (am2 (N 1)) n, N) := by
  refine lp_at (fun i => (sI (am2 (N 1)) i, nI i)) n (by omega) rfl (fun i hi k => ?_) (fun k => ?_)
  · have hi4 : i < 4 := by omega
    obtain ⟨hz, h6⟩ := szj_e (V.2.1 i hi4 (by rw [hn]; exact nI_lt hi (by omega)))
    simp only [fX10_account_L14, jn_e, bnd_e, grd_T ib2, tc2, hn]
    rw [if_neg (nI_ge hi (by omega))]
    simp only [if_neg (show ¬ (2 : Int32) = 1 by decide), if_neg (show ¬ (2 : Int32) = 3 by decide), if_neg (show ¬ (2 : Int32) = 7 by decide), if_neg (show ¬ (2 : Int32) = 9 by decide), nI_1]
    rw [if_pos True.intro, m_conflicts hi4 hz h6, clp_e, m_acc_in2 _ _ hi4 hz h6]
    rfl
  · simp only [fX10_account_L14, jn_e, bnd_e, grd_T ib2, tc2, hn]
    rw [if_pos (nI_le (Nat.le_refl _) (by omega))]
theorem m_acc_in3 (x a : Int32) (hj : j < 4) (hn : N 1 (ix j 2) = nI n) (h6 : n ≤ 6) (k : Int32 → Option (Int32 × Mem)) : lp (fX10_account_L11 3 N (x, nI j) k) FU (a, 0) = k (a) := by
  refine lp_at (fun i => (a, nI i)) n (by omega) (rfl) (fun i hi k' => ?_) (fun k' => ?_)
  · simp only [fX10_account_L11, jn_e, bnd_e]
    rw [m_of2 hj, hn, clp_e, if_neg (nI_ge hi (by omega))]
    simp only [if_neg (show ¬ (3 : Int32) = 5 by decide), if_neg (show ¬ (3 : Int32) = 10 by decide), nI_1]
    
  · simp only [fX10_account_L11, jn_e, bnd_e]
    rw [m_of2 hj, hn, clp_e, if_pos (nI_le (Nat.le_refl _) (by omega))]
theorem m_acc3 (V : Val (N 1)) (hn : N 1 2 = nI n) (hn4 : n ≤ 4) : lp (fX10_account_L12 3 N) FU (0, 0) = some (sI (am3 (N 1)) n, N) := by
  refine lp_at (fun i => (sI (am3 (N 1)) i, nI i)) n (by omega) rfl (fun i hi k => ?_) (fun k => ?_)
  · have hi4 : i < 4 := by omega
    obtain ⟨hz, h6⟩ := szj_e (V.2.1 i hi4 (by rw [hn]; exact nI_lt hi (by omega)))
    simp only [fX10_account_L12, jn_e, bnd_e, grd_T ib2, tc2, hn]
    rw [if_neg (nI_ge hi (by omega))]
    simp only [if_neg (show ¬ (3 : Int32) = 1 by decide), if_neg (show ¬ (3 : Int32) = 2 by decide), if_neg (show ¬ (3 : Int32) = 7 by decide), if_neg (show ¬ (3 : Int32) = 9 by decide), nI_1]
    rw [if_pos True.intro, show fX10_greens N (nI i) 0 = _ from m_greens hi4 hz h6 (p := 0) (by omega), clp_e, show fX10_greens N (nI i) 1 = _ from m_greens hi4 hz h6 (p := 1) (by omega), clp_e, m_acc_in3 _ _ hi4 hz h6]
    rfl
  · simp only [fX10_account_L12, jn_e, bnd_e, grd_T ib2, tc2, hn]
    rw [if_pos (nI_le (Nat.le_refl _) (by omega))]
theorem m_acc_in5 (x a : Int32) (hj : j < 4) (hn : N 1 (ix j 2) = nI n) (h6 : n ≤ 6) (k : Int32 → Option (Int32 × Mem)) : lp (fX10_account_L9 5 N (x, nI j) k) FU (a, 0) = k (a + sI (fun g => N 1 (gx j g 3)) n) := by
  refine lp_at (fun i => (a + sI (fun g => N 1 (gx j g 3)) i, nI i)) n (by omega) (congrArg (fun x => (x, (0 : Int32))) (Int32.add_zero a).symm) (fun i hi k' => ?_) (fun k' => ?_)
  · simp only [fX10_account_L9, jn_e, bnd_e]
    rw [m_of2 hj, hn, clp_e, if_neg (nI_ge hi (by omega))]
    simp only [if_neg (show ¬ (5 : Int32) = 10 by decide), nI_1]
    rw [if_pos True.intro, m_g3 hj (by omega), clp_e, Int32.add_assoc]
    rfl
  · simp only [fX10_account_L9, jn_e, bnd_e]
    rw [m_of2 hj, hn, clp_e, if_pos (nI_le (Nat.le_refl _) (by omega))]
theorem m_acc5 (V : Val (N 1)) (hn : N 1 2 = nI n) (hn4 : n ≤ 4) : lp (fX10_account_L10 5 N) FU (0, 0) = some (sI (am5 (N 1)) n, N) := by
  refine lp_at (fun i => (sI (am5 (N 1)) i, nI i)) n (by omega) rfl (fun i hi k => ?_) (fun k => ?_)
  · have hi4 : i < 4 := by omega
    obtain ⟨hz, h6⟩ := szj_e (V.2.1 i hi4 (by rw [hn]; exact nI_lt hi (by omega)))
    simp only [fX10_account_L10, jn_e, bnd_e, grd_T ib2, tc2, hn]
    rw [if_neg (nI_ge hi (by omega))]
    simp only [if_neg (show ¬ (5 : Int32) = 1 by decide), if_neg (show ¬ (5 : Int32) = 2 by decide), if_neg (show ¬ (5 : Int32) = 3 by decide), if_neg (show ¬ (5 : Int32) = 7 by decide), if_neg (show ¬ (5 : Int32) = 9 by decide), nI_1]
    rw [m_acc_in5 _ _ hi4 hz h6]
    rfl
  · simp only [fX10_account_L10, jn_e, bnd_e, grd_T ib2, tc2, hn]
    rw [if_pos (nI_le (Nat.le_refl _) (by omega))]
theorem m_acc_in7 (x a : Int32) (hj : j < 4) (hn : N 1 (ix j 2) = nI n) (h6 : n ≤ 6) (k : Int32 → Option (Int32 × Mem)) : lp (fX10_account_L7 7 N (x, nI j) k) FU (a, 0) = k (a) := by
  refine lp_at (fun i => (a, nI i)) n (by omega) (rfl) (fun i hi k' => ?_) (fun k' => ?_)
  · simp only [fX10_account_L7, jn_e, bnd_e]
    rw [m_of2 hj, hn, clp_e, if_neg (nI_ge hi (by omega))]
    simp only [if_neg (show ¬ (7 : Int32) = 5 by decide), if_neg (show ¬ (7 : Int32) = 10 by decide), nI_1]
    
  · simp only [fX10_account_L7, jn_e, bnd_e]
    rw [m_of2 hj, hn, clp_e, if_pos (nI_le (Nat.le_refl _) (by omega))]
theorem m_acc7 (V : Val (N 1)) (hn : N 1 2 = nI n) (hn4 : n ≤ 4) : lp (fX10_account_L8 7 N) FU (0, 0) = some (sI (am7 (N 1)) n, N) := by
  refine lp_at (fun i => (sI (am7 (N 1)) i, nI i)) n (by omega) rfl (fun i hi k => ?_) (fun k => ?_)
  · have hi4 : i < 4 := by omega
    obtain ⟨hz, h6⟩ := szj_e (V.2.1 i hi4 (by rw [hn]; exact nI_lt hi (by omega)))
    simp only [fX10_account_L8, jn_e, bnd_e, grd_T ib2, tc2, hn]
    rw [if_neg (nI_ge hi (by omega))]
    simp only [if_neg (show ¬ (7 : Int32) = 1 by decide), if_neg (show ¬ (7 : Int32) = 2 by decide), if_neg (show ¬ (7 : Int32) = 3 by decide), if_neg (show ¬ (7 : Int32) = 9 by decide), nI_1]
    rw [if_pos True.intro, m_waiting hi4 hz h6, clp_e, m_acc_in7 _ _ hi4 hz h6]
    rfl
  · simp only [fX10_account_L8, jn_e, bnd_e, grd_T ib2, tc2, hn]
    rw [if_pos (nI_le (Nat.le_refl _) (by omega))]
theorem m_acc_in9 (x a : Int32) (hj : j < 4) (hn : N 1 (ix j 2) = nI n) (h6 : n ≤ 6) (k : Int32 → Option (Int32 × Mem)) : lp (fX10_account_L5 9 N (x, nI j) k) FU (a, 0) = k (a) := by
  refine lp_at (fun i => (a, nI i)) n (by omega) (rfl) (fun i hi k' => ?_) (fun k' => ?_)
  · simp only [fX10_account_L5, jn_e, bnd_e]
    rw [m_of2 hj, hn, clp_e, if_neg (nI_ge hi (by omega))]
    simp only [if_neg (show ¬ (9 : Int32) = 5 by decide), if_neg (show ¬ (9 : Int32) = 10 by decide), nI_1]
    
  · simp only [fX10_account_L5, jn_e, bnd_e]
    rw [m_of2 hj, hn, clp_e, if_pos (nI_le (Nat.le_refl _) (by omega))]
theorem m_acc9 (V : Val (N 1)) (hn : N 1 2 = nI n) (hn4 : n ≤ 4) : lp (fX10_account_L6 9 N) FU (0, 0) = some (sI (am9 (N 1)) n, N) := by
  refine lp_at (fun i => (sI (am9 (N 1)) i, nI i)) n (by omega) rfl (fun i hi k => ?_) (fun k => ?_)
  · have hi4 : i < 4 := by omega
    obtain ⟨hz, h6⟩ := szj_e (V.2.1 i hi4 (by rw [hn]; exact nI_lt hi (by omega)))
    simp only [fX10_account_L6, jn_e, bnd_e, grd_T ib2, tc2, hn]
    rw [if_neg (nI_ge hi (by omega))]
    simp only [if_neg (show ¬ (9 : Int32) = 1 by decide), if_neg (show ¬ (9 : Int32) = 2 by decide), if_neg (show ¬ (9 : Int32) = 3 by decide), if_neg (show ¬ (9 : Int32) = 7 by decide), nI_1]
    rw [if_pos True.intro, m_of4 hi4, clp_e, m_acc_in9 _ _ hi4 hz h6, m_acc_in9 _ _ hi4 hz h6]
    show _ = k (sI (am9 (N 1)) i + am9 (N 1) i, _)
    unfold am9
    by_cases c : N 1 (ix i 4) < 0
    · rw [if_pos c, if_pos c, Int32.add_zero]
    · rw [if_neg c, if_neg c]
  · simp only [fX10_account_L6, jn_e, bnd_e, grd_T ib2, tc2, hn]
    rw [if_pos (nI_le (Nat.le_refl _) (by omega))]
theorem m_acc_in10 (x a : Int32) (hj : j < 4) (hn : N 1 (ix j 2) = nI n) (h6 : n ≤ 6) (k : Int32 → Option (Int32 × Mem)) : lp (fX10_account_L3 10 N (x, nI j) k) FU (a, 0) = k (a + sI (fun g => nI (cn (fun p => hm (N 1) j g p) 3)) n) := by
  refine lp_at (fun i => (a + sI (fun g => nI (cn (fun p => hm (N 1) j g p) 3)) i, nI i)) n (by omega) (congrArg (fun x => (x, (0 : Int32))) (Int32.add_zero a).symm) (fun i hi k' => ?_) (fun k' => ?_)
  · simp only [fX10_account_L3, jn_e, bnd_e]
    rw [m_of2 hj, hn, clp_e, if_neg (nI_ge hi (by omega))]
    simp only [if_neg (show ¬ (10 : Int32) = 5 by decide), nI_1]
    rw [if_pos True.intro, m_heads hj (by omega), clp_e, Int32.add_assoc]
    rfl
  · simp only [fX10_account_L3, jn_e, bnd_e]
    rw [m_of2 hj, hn, clp_e, if_pos (nI_le (Nat.le_refl _) (by omega))]
theorem m_acc10 (V : Val (N 1)) (hn : N 1 2 = nI n) (hn4 : n ≤ 4) : lp (fX10_account_L4 10 N) FU (0, 0) = some (sI (am10 (N 1)) n, N) := by
  refine lp_at (fun i => (sI (am10 (N 1)) i, nI i)) n (by omega) rfl (fun i hi k => ?_) (fun k => ?_)
  · have hi4 : i < 4 := by omega
    obtain ⟨hz, h6⟩ := szj_e (V.2.1 i hi4 (by rw [hn]; exact nI_lt hi (by omega)))
    simp only [fX10_account_L4, jn_e, bnd_e, grd_T ib2, tc2, hn]
    rw [if_neg (nI_ge hi (by omega))]
    simp only [if_neg (show ¬ (10 : Int32) = 1 by decide), if_neg (show ¬ (10 : Int32) = 2 by decide), if_neg (show ¬ (10 : Int32) = 3 by decide), if_neg (show ¬ (10 : Int32) = 7 by decide), if_neg (show ¬ (10 : Int32) = 9 by decide), nI_1]
    rw [m_acc_in10 _ _ hi4 hz h6]
    rfl
  · simp only [fX10_account_L4, jn_e, bnd_e, grd_T ib2, tc2, hn]
    rw [if_pos (nI_le (Nat.le_refl _) (by omega))]
end AccM
