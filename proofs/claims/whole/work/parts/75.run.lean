/-! call: run : one second, both sides on one array -/
section P75
variable {A B C : Ar} {j : Nat}
def Bj (A B : Ar) (j : Nat) : Prop := A 0 = B 0 ∧ A 2 = B 2 ∧ A 3 = B 3 ∧ ∀ k, k < 121 → A (ix j k) = B (ix j k)
theorem Bj.g (h : Bj A B j) {g w : Nat} (hg : g < 6) (hw : w < 13) : A (gx j g w) = B (gx j g w) := by rw [ix_gx]; exact h.2.2.2 _ (by omega)
theorem Bj.tr (h : Bj A B j) (h' : Bj B C j) : Bj A C j := ⟨h.1.trans h'.1, h.2.1.trans h'.2.1, h.2.2.1.trans h'.2.2.1, fun k hk => (h.2.2.2 k hk).trans (h'.2.2.2 k hk)⟩
theorem chg_n {k : Nat} (h : k < 6) : chg A j k = A k := chg_o (by unfold ix; omega)
theorem chg_j {i k : Nat} (hij : i ≠ j) (hk : k < 121) : chg A i (ix j k) = A (ix j k) := chg_o (by unfold ix; omega)
theorem chg_cong (h : Bj A B j) {k : Nat} (hk : k < 121) : chg A j (ix j k) = chg B j (ix j k) := by
  unfold chg
  rw [h.2.2.2 4 (by omega), h.2.2.1]
  split
  · try dsimp only
    rw [h.2.2.2 3 (by omega), h.2.2.2 k hk]
  · exact h.2.2.2 k hk
theorem cA_n {k : Nat} (hk : k < 6) : ∀ i, cA A i k = A k
  | 0 => rfl
  | i + 1 => (chg_n hk).trans (cA_n hk i)
theorem cA_j {k : Nat} (hk : k < 121) : ∀ i, i ≤ j → cA A i (ix j k) = A (ix j k)
  | 0, _ => rfl
  | i + 1, h => (chg_j (by omega) hk).trans (cA_j hk i (by omega))
theorem cA_B {i : Nat} (h : i ≤ j) : Bj (cA A i) A j := ⟨cA_n (by omega) i, cA_n (by omega) i, cA_n (by omega) i, fun _ hk => cA_j hk i h⟩
theorem cA_d {k : Nat} (hk : k < 121) : ∀ i, j < i → cA A i (ix j k) = chg A j (ix j k)
  | 0, h => absurd h (by omega)
  | i + 1, h => by
    by_cases e : i = j
    · subst e; exact chg_cong (cA_B (Nat.le_refl _)) hk
    · exact (chg_j e hk).trans (cA_d hk i (by omega))
theorem cA_C {i : Nat} (h : j < i) : Bj (cA A i) (chg A j) j := ⟨(cA_n (by omega) i).trans (chg_n (by omega)).symm, (cA_n (by omega) i).trans (chg_n (by omega)).symm, (cA_n (by omega) i).trans (chg_n (by omega)).symm, fun _ hk => cA_d hk i h⟩
/-! lights -/
theorem Bj_on (h : Bj A B j) {q g : Nat} (hq : q < 2) (hg : g < 6) (t : Int32) : on A j q g t = on B j q g t := by
  unfold on fs ln; rw [h.g hg (by omega), h.g hg (by omega), h.1]
theorem Bj_rq (h : Bj A B j) {g : Nat} (hg : g < 6) : rq A j g = rq B j g := by unfold rq; rw [h.g hg (by omega)]
theorem Bj_wt (h : Bj A B j) {g : Nat} (hg : g < 6) : wt A j g = wt B j g := by unfold wt; rw [h.g hg (by omega)]
theorem Bj_fs (h : Bj A B j) {q g : Nat} (hq : q < 2) (hg : g < 6) : fs A j q g = fs B j q g := by unfold fs; rw [h.g hg (by omega)]
theorem Bj_sd (h : Bj A B j) {q g : Nat} (hq : q < 2) (hg : g < 6) (t : Int32) : sd A j q t g = sd B j q t g := by
  unfold sd; rw [Bj_on h hq hg, Bj_rq h hg, Bj_wt h hg, Bj_fs h hq hg]
theorem updc {X Y : Ar} {q k : Nat} {v w : Int32} (h : X k = Y k) (hv : k = q → v = w) : upd X q v k = upd Y q w k := by
  rw [up_at, up_at]
  split
  · rename_i z; exact hv z
  · exact h
theorem LT_cong (h : Bj A B j) {q : Nat} (hq : q < 2) (t : Int32) {k : Nat} (hk : k < 121) : ∀ i, i ≤ 6 → LT A j q t i (ix j k) = LT B j q t i (ix j k)
  | 0, _ => h.2.2.2 k hk
  | i + 1, hi => by
    have ih := LT_cong h hq t hk i (by omega)
    have g6 : i < 6 := by omega
    show lg1 A (LT A j q t i) j q t i (ix j k) = lg1 B (LT B j q t i) j q t i (ix j k)
    unfold lg1
    rw [Bj_on h hq g6, Bj_rq h g6, Bj_wt h g6, Bj_fs h hq g6, h.g g6 (w := 3) (by omega), h.g g6 (w := 5) (by omega)]
    have n4 : ix j k = 4 → ∀ x y : Int32, x = y := fun z => absurd z (by unfold ix; omega)
    have n5 : ix j k = 5 → ∀ x y : Int32, x = y := fun z => absurd z (by unfold ix; omega)
    split
    · split
      · split
        · split
          · exact updc (updc (updc (updc (updc ih (fun _ => rfl)) (fun z => n4 z _ _)) (fun z => n5 z _ _)) (fun _ => rfl)) (fun _ => rfl)
          · exact updc (updc ih (fun _ => rfl)) (fun _ => rfl)
        · exact updc ih (fun _ => rfl)
      · exact updc ih (fun _ => rfl)
    · exact ih
theorem dW_cong (h : Bj A B j) {q : Nat} (hq : q < 2) (t : Int32) : ∀ i, i ≤ 6 → dW A j q t i = dW B j q t i
  | 0, _ => rfl
  | i + 1, hi => by
    show dW A j q t i + _ = dW B j q t i + _
    rw [dW_cong h hq t i (by omega), Bj_sd h hq (by omega), h.2.2.1, h.g (g := i) (w := 4) (by omega) (by omega)]
def dWo (A : Ar) (j : Nat) : Int32 := dW A j (plo A j) (seo A j) (szo A j)
theorem Bj_p (h : Bj A B j) : plo A j = plo B j := by unfold plo; rw [h.2.2.2 3 (by omega)]
theorem Bj_s (h : Bj A B j) : seo A j = seo B j := by unfold seo; rw [h.2.2.1, h.1, h.2.2.2 1 (by omega)]
theorem Bj_z (h : Bj A B j) : szo A j = szo B j := by unfold szo; rw [h.2.2.2 2 (by omega)]
theorem lja_cong (h : Bj A B j) (ok : OKJ B j) {k : Nat} (hk : k < 121) : lja A j (ix j k) = lja B j (ix j k) := by
  unfold lja; rw [Bj_p h, Bj_s h, Bj_z h]; exact LT_cong h ok.2.2.2.1 _ hk _ ok.2.1
theorem sdo_cong (h : Bj A B j) (ok : OKJ B j) : sdo A j = sdo B j := by
  unfold sdo; rw [Bj_p h, Bj_s h, Bj_z h, cn_cong (szo B j) (fun i hi => Bj_sd h ok.2.2.2.1 (by have := ok.2.1; omega) _)]
theorem dWo_cong (h : Bj A B j) (ok : OKJ B j) : dWo A j = dWo B j := by
  unfold dWo; rw [Bj_p h, Bj_s h, Bj_z h]; exact dW_cong h ok.2.2.2.1 _ _ ok.2.1
theorem OKJ_cong (h : Bj A B j) (ok : OKJ B j) : OKJ A j := by
  obtain ⟨a, b, c, d, e⟩ := ok
  refine ⟨fun g hg => by rw [h.g hg (by omega), h.g hg (by omega), h.g hg (by omega)]; exact a g hg, by rw [Bj_z h]; exact b, by rw [Bj_z h, h.2.2.2 2 (by omega)]; exact c, by rw [Bj_p h]; exact d, by rw [Bj_p h, h.2.2.2 3 (by omega)]; exact e⟩
theorem lja_n {k : Nat} (hk : k < 4) : lja A j k = A k := LT_n hk
theorem lja_far {i k : Nat} (ok : OKJ A i) (hij : i ≠ j) (hk : k < 121) : lja A i (ix j k) = A (ix j k) := LT_far ok.2.1 (by unfold ix; omega) (by unfold ix; omega) (by unfold ix; omega)
def isum (f : Nat → Int32) : Nat → Int32
  | 0 => 0
  | i + 1 => isum f i + f i
theorem isum_cong {f g : Nat → Int32} : ∀ n, (∀ i, i < n → f i = g i) → isum f n = isum g n
  | 0, _ => rfl
  | n + 1, h => by unfold isum; rw [isum_cong n (fun i hi => h i (by omega)), h n (by omega)]
/-- all lights of a road whose junctions below c are fit -/
theorem rA_all {c : Nat} (ok : ∀ j, j < c → OKJ C j) : ∀ i, i ≤ c → (∀ k, k < 4 → rA C i k = C k) ∧ (∀ j k, k < 121 → i ≤ j → rA C i (ix j k) = C (ix j k)) ∧ (∀ j k, k < 121 → j < i → rA C i (ix j k) = lja C j (ix j k)) ∧ sA C i = isum (sdo C) i ∧ rA C i 4 = C 4 + isum (sdo C) i ∧ rA C i 5 = C 5 + isum (dWo C) i
  | 0, _ => ⟨fun _ _ => rfl, fun _ _ _ _ => rfl, fun _ _ _ h => absurd h (by omega), rfl, (Int32.add_zero _).symm, (Int32.add_zero _).symm⟩
  | i + 1, hi => by
    obtain ⟨a1, a2, a3, a4, a5, a6⟩ := rA_all ok i (by omega)
    have hB : Bj (rA C i) C i := ⟨a1 0 (by omega), a1 2 (by omega), a1 3 (by omega), fun k hk => a2 i k hk (Nat.le_refl _)⟩
    have oki := OKJ_cong hB (ok i (by omega))
    refine ⟨fun k hk => (lja_n hk).trans (a1 k hk), fun j k hk h => (lja_far oki (by omega) hk).trans (a2 j k hk (by omega)), fun j k hk h => ?_, ?_, ?_, ?_⟩
    · by_cases e : j = i
      · subst e; exact lja_cong hB (ok j (by omega)) hk
      · exact (lja_far oki (fun z => e z.symm) hk).trans (a3 j k hk (by omega))
    · show sA C i + sdo (rA C i) i = isum (sdo C) i + sdo C i
      rw [a4, sdo_cong hB (ok i (by omega))]
    · show lja (rA C i) i 4 = C 4 + (isum (sdo C) i + sdo C i)
      unfold lja
      rw [LT_4, a5, Int32.add_assoc]
      have := sdo_cong hB (ok i (by omega))
      unfold sdo at this ⊢
      rw [this]
    · show lja (rA C i) i 5 = C 5 + (isum (dWo C) i + dWo C i)
      unfold lja
      rw [LT_5, a6, Int32.add_assoc]
      have := dWo_cong hB (ok i (by omega))
      unfold dWo at this ⊢
      rw [this]
/-- the state behind a second, and what it serves -/
def psA (A : Ar) (c : Nat) : Ar := upd (rA (cA A c) c) 3 (A 3 + 1)
def psv (A : Ar) (c : Nat) : Int32 := sA (cA A c) c
theorem chg_ok {A : Ar} (V : Val A) (hj : j < 4) (hl : nI j < A 2) : OKJ (chg A j) j := by
  have v := V.2.1 j hj hl
  obtain ⟨n, n6, hn⟩ := v.sz
  obtain ⟨q, q2, hq⟩ := plan_of v
  have hn' : chg A j (ix j 2) = nI n := by rw [chg_o (by unfold ix; omega)]; exact hn
  have hp : ∃ p, p < 2 ∧ chg A j (ix j 3) = nI p := by
    unfold chg
    split
    · exact ⟨1 - q, by omega, by dsimp only; rw [if_pos rfl, hq, one_sub q2]⟩
    · exact ⟨q, q2, hq⟩
  obtain ⟨p, p2, hp⟩ := hp
  have ez : szo (chg A j) j = n := by unfold szo; rw [hn', nI_clamp (by omega)]
  have ep : plo (chg A j) j = p := by unfold plo; rw [hp, nI_clamp (by omega)]
  refine ⟨fun g hg => ?_, by rw [ez]; exact n6, by rw [ez]; exact hn', by rw [ep]; exact p2, by rw [ep]; exact hp⟩
  have vg := v.2.2.2.2.2.2.1 g hg
  rw [chg_g (by omega) (by omega), chg_g (by omega) (by omega)]
  refine ⟨vg.2.2.1, ⟨vg.2.2.2.2.1.1, by have := vg.2.2.2.2.1.2; have := V.1.2.2.2.1.2; omega⟩, ?_⟩
  unfold chg
  split
  · try dsimp only
    rw [if_neg (by unfold ix gx; omega), if_neg (by unfold ix gx; omega), if_pos (by unfold gx; omega)]
    exact ⟨by decide, by decide⟩
  · exact vg.2.2.2.2.2.1
theorem cA_ok {A : Ar} (V : Val A) {c : Nat} (hc : A 2 = nI c) (h4 : c ≤ 4) (hj : j < c) : OKJ (cA A c) j := OKJ_cong (cA_C hj) (chg_ok V (by omega) (by rw [hc]; exact nI_lt hj (by omega)))
/-- the reference's second -/
theorem m_passes {N : Mem} (V : Val (N 1)) {c : Nat} (hc : N 1 2 = nI c) (h4 : c ≤ 4) : fX10_passes N = some (psv (N 1) c, m1 N (psA (N 1) c)) := by
  unfold fX10_passes
  rw [jn_e]
  refine lp_at (fun i => (nI i, m1 N (cA (N 1) i))) c (by omega) ?_ (fun i hi k => ?_) (fun k => ?_)
  · show (0, N) = (nI 0, m1 N (N 1)); rw [m1_self]; rfl
  · have hl : nI i < N 1 2 := by rw [hc]; exact nI_lt hi (by omega)
    have v := V.2.1 i (by omega) hl
    obtain ⟨n, n6, hn⟩ := v.sz
    exact m_l4 (n := n) hi h4 (by rw [cA_n (by omega)]; exact hc) n6 (by rw [cA_j (by omega) i (Nat.le_refl _)]; exact hn) (fun g hg h6 => by
      rw [ix_gx, cA_j (by omega) i (Nat.le_refl _), ← ix_gx]
      exact (v.2.2.2.2.2.2.1 g h6).2.2.2.2.2.2.2.2.2 (by rw [hn]; exact nI_nlt hg (by omega)) 5 (by omega)) _ k
  · simp only [fX10_passes_L4]
    rw [grd_T ib2, tc2, m1_1, cA_n (by omega), hc, if_pos (nI_le (Nat.le_refl _) (by omega)), jn_e]
    have ok : ∀ j, j < c → OKJ (cA (N 1) c) j := fun j hj => cA_ok V hc h4 hj
    refine lp_at (fun i => (sA (cA (N 1) c) i, nI i, m1 N (rA (cA (N 1) c) i))) c (by omega) rfl (fun i hi k => ?_) (fun k => ?_)
    · obtain ⟨a1, a2, a3, a4, a5, a6⟩ := rA_all ok i (by omega)
      have hB : Bj (rA (cA (N 1) c) i) (cA (N 1) c) i := ⟨a1 0 (by omega), a1 2 (by omega), a1 3 (by omega), fun k hk => a2 i k hk (Nat.le_refl _)⟩
      exact m_l2 (OKJ_cong hB (ok i hi)) hi h4 (by rw [hB.2.1, cA_n (by omega)]; exact hc) (by rw [hB.1, cA_n (by omega)]; exact V.c0) _ k _
    · obtain ⟨a1, a2, a3, a4, a5, a6⟩ := rA_all ok c (Nat.le_refl _)
      simp only [fX10_passes_L2]
      rw [grd_T ib2, tc2, m1_1, a1 2 (by omega), cA_n (by omega), hc, if_pos (nI_le (Nat.le_refl _) (by omega)), grd_T ib3, grd_T ib3, bnd_e, tc3, m1_set, a1 3 (by omega), cA_n (by omega)]
      rfl
end P75
