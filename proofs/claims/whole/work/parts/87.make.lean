/-! call: make : starts, the greens written, whether they are clear -/
def stt (l ps : Nat → Nat) (p : Nat) : Nat := sm (fun q => l q + ps q) p
theorem sm_mono (f : Nat → Nat) : ∀ {a b : Nat}, a ≤ b → sm f a ≤ sm f b := by
  intro a b h
  induction b with
  | zero => rw [show a = 0 by omega]; exact Nat.le_refl _
  | succ b ih =>
    by_cases e : a = b + 1
    · rw [e]; exact Nat.le_refl _
    · have := ih (by omega)
      show sm f a ≤ sm f b + f b
      omega
theorem x_starts {M : Mem} {L : Nat} {l ps : Nat → Nat} (h465 : M 465 0 = nI L) (hL : L ≤ 6) (h8 : ∀ p, p < L → M 468 p = nI (l p)) (h9 : ∀ p, p < L → M 469 p = nI (ps p)) : ∃ M', fX3_setStarts M = some ((), M') ∧ (∀ o, o ≠ 467 → M' o = M o) ∧ ∀ p, p < L → M' 467 p = nI (stt l ps p) := by
  unfold fX3_setStarts
  refine lp_inv (f := fX3_setStarts_L1) (fun i (s : Int32 × Int32 × Mem) => s.1 = nI (stt l ps i) ∧ s.2.1 = nI i ∧ (∀ o, o ≠ 467 → s.2.2 o = M o) ∧ ∀ p, p < i → s.2.2 467 p = nI (stt l ps p)) (fun r => ∃ M', r = some ((), M') ∧ (∀ o, o ≠ 467 → M' o = M o) ∧ ∀ p, p < L → M' 467 p = nI (stt l ps p)) L (by omega) (fun i hi s hs => Or.inl ?_) (fun s hs => ?_) (0, 0, M) ⟨rfl, rfl, fun _ _ => rfl, fun p hp => absurd hp (by omega)⟩
  · obtain ⟨x, y, K⟩ := s
    obtain ⟨a1, a2, a3, a4⟩ := hs
    dsimp only at a1 a2 a3 a4
    subst a1 a2
    refine ⟨(nI (stt l ps (i + 1)), nI (i + 1), mset K 467 i (nI (stt l ps i))), ⟨rfl, rfl, fun o ho => ?_, fun p hp => ?_⟩, fun k => ?_⟩
    · show mset K 467 i (nI (stt l ps i)) o = _
      rw [ms_other _ _ _ ho]; exact a3 o ho
    · show mset K 467 i (nI (stt l ps i)) 467 p = _
      rw [ms_at]
      by_cases e : p = i
      · subst e; rw [if_pos ⟨rfl, rfl⟩]
      · rw [if_neg (fun z => e z.2)]; exact a4 p (by omega)
    · simp only [fX3_setStarts_L1]
      rw [a3 465 (by omega), h465, if_neg (nI_ge hi (by omega)), grd_T (inb_nI (by omega) (by omega)), nI_clamp (by omega), bnd_e, grd_T (inb_nI (by omega) (by omega)), grd_T (inb_nI (by omega) (by omega)), ms_other _ _ _ (by omega), ms_other _ _ _ (by omega), a3 468 (by omega), a3 469 (by omega), h8 i hi, h9 i hi, nI_add, nI_add, bnd_e, bnd_e, nI_1]
      rfl
  · obtain ⟨x, y, K⟩ := s
    obtain ⟨a1, a2, a3, a4⟩ := hs
    dsimp only at a1 a2 a3 a4
    subst a1 a2
    refine ⟨_, ⟨K, rfl, a3, a4⟩, fun k => ?_⟩
    simp only [fX3_setStarts_L1]
    rw [a3 465 (by omega), h465, if_pos (nI_le (Nat.le_refl _) (by omega))]
section P87
variable {A : Ar} {J j n L q : Nat} {w : List Nat} {l ps : Nat → Nat}
/-- a and b keep their clearance -/
def icl (A : Ar) (j : Nat) (w : List Nat) (l ps : Nat → Nat) (a b : Nat) : Bool := decide (kl A j a b ≤ wr (nI (stt l ps (phs w b)) - nI (stt l ps (phs w a)) - nI (l (phs w a))) (A 0))
def icA (A : Ar) (j : Nat) (w : List Nat) (l ps : Nat → Nat) (n : Nat) : Bool := al (fun a => al (fun b => icl A j w l ps a b) n) n
theorem x_isClear {M : Mem} (hR : RJ M J A j) (hl : nI j < A 2) (hn : A (ix j 2) = nI n) (hn6 : n ≤ 6) (hc : 0 < (A 0).toInt) (hO : OA M 466 w) (hw : w.length = n) (hwL : ∀ g, g < n → phs w g < L) (hL : L ≤ 6) (h7 : ∀ p, p < L → M 467 p = nI (stt l ps p)) (h8 : ∀ p, p < L → M 468 p = nI (l p)) : fX3_isClear M J (A 0) = some (b01 (icA A j w l ps n)) := by
  have inner : ∀ a, a < n → ∀ k4 : Unit → Option Int32, lp (fX3_isClear_L1 J (A 0) M (nI a) k4) FU 0 = if al (fun b => icl A j w l ps a b) n = true then k4 () else some 0 := fun a ha k4 => by
    have hpa := hwL a ha
    have step : ∀ i, i < n → ∀ k, fX3_isClear_L1 J (A 0) M (nI a) k4 k (nI i) = if icl A j w l ps a i = true then k (nI (i + 1)) else some 0 := fun i hi k => by
      have hpi := hwL i hi
      simp only [fX3_isClear_L1]
      have ea : M 466 a = nI (phs w a) := hO a (by omega)
      have ei : M 466 i = nI (phs w i) := hO i (by omega)
      rw [hR.w (by omega), hn, if_neg (nI_ge hi (by omega)), grd_T (inb_nI (by omega) (by omega)), nI_clamp (show a < 2 ^ 31 by omega), ea, bnd_e, grd_T (inb_nI (by omega) (by omega)), grd_T (inb_nI (by omega) (by omega)), grd_T (inb_nI (by omega) (by omega)), nI_clamp (show i < 2 ^ 31 by omega), ei, grd_T (inb_nI (by omega) (by omega)), nI_clamp (show phs w a < 2 ^ 31 by omega), nI_clamp (show phs w i < 2 ^ 31 by omega), h7 _ hpa, h7 _ hpi, h8 _ hpa, f_gap _ hc, clp_e, x_clear hR hl (show a < 6 by omega) (show i < 6 by omega), clp_e, bnd_e, nI_1]
      unfold icl
      by_cases z : kl A j a i ≤ wr (nI (stt l ps (phs w i)) - nI (stt l ps (phs w a)) - nI (l (phs w a))) (A 0)
      · rw [if_pos z, if_pos (decide_eq_true z)]
      · rw [if_neg z, if_neg (by rw [decide_eq_true_iff]; exact z)]
    exact lp_fst (f := fX3_isClear_L1 J (A 0) M (nI a) k4) (s0 := (0 : Int32)) (fun i => nI i) (fun b => icl A j w l ps a b) (rt := k4 ()) (rf := fun _ => some 0) n (by omega) rfl (fun i hi ht k => by rw [step i hi, if_pos ht]) (fun i hi ht k => by rw [step i hi, if_neg (by rw [ht]; decide)]) (fun k => by
      simp only [fX3_isClear_L1]
      rw [hR.w (by omega), hn, if_pos (nI_le (Nat.le_refl _) (by omega))])
  unfold fX3_isClear
  have step : ∀ a, a < n → ∀ k, fX3_isClear_L2 J (A 0) M k (nI a) = if al (fun b => icl A j w l ps a b) n = true then k (nI (a + 1)) else some 0 := fun a ha k => by
    simp only [fX3_isClear_L2]
    rw [hR.w (by omega), hn, if_neg (nI_ge ha (by omega)), jn_e, inner a ha, bnd_e, nI_1]
  have main := lp_fst (f := fX3_isClear_L2 J (A 0) M) (s0 := (0 : Int32)) (fun i => nI i) (fun a => al (fun b => icl A j w l ps a b) n) (rt := some 1) (rf := fun _ => some 0) n (by omega) rfl (fun i hi ht k => by rw [step i hi, if_pos ht]) (fun i hi ht k => by rw [step i hi, if_neg (by rw [ht]; decide)]) (fun k => by
    simp only [fX3_isClear_L2]
    rw [hR.w (by omega), hn, if_pos (nI_le (Nat.le_refl _) (by omega))])
  rw [main]
  unfold icA
  cases al (fun a => al (fun b => icl A j w l ps a b) n) n <;> rfl
/-! greens written group by group -/
def pB (B : Ar) (j q : Nat) (P : Nat → Bool) (f g : Nat → Int32) : Nat → Ar
  | 0 => B
  | i + 1 => if P i then upd (upd (pB B j q P f g i) (gx j i (9 + 2 * q)) (f i)) (gx j i (10 + 2 * q)) (g i) else pB B j q P f g i
theorem pB_o {B : Ar} {P : Nat → Bool} {f g : Nat → Int32} {k : Nat} : ∀ i, (∀ a, a < i → P a = true → k ≠ gx j a (9 + 2 * q) ∧ k ≠ gx j a (10 + 2 * q)) → pB B j q P f g i k = B k
  | 0, _ => rfl
  | i + 1, h => by
    unfold pB
    split
    · rename_i z
      obtain ⟨h1, h2⟩ := h i (by omega) z
      rw [pk_un h2, pk_un h1]; exact pB_o i (fun a ha => h a (by omega))
    · exact pB_o i (fun a ha => h a (by omega))
theorem pB_at (hq : q < 2) {B : Ar} {P : Nat → Bool} {f g : Nat → Int32} {a : Nat} (hP : P a = true) : ∀ i, a < i → pB B j q P f g i (gx j a (9 + 2 * q)) = f a ∧ pB B j q P f g i (gx j a (10 + 2 * q)) = g a
  | 0, h => absurd h (by omega)
  | i + 1, h => by
    by_cases e : a = i
    · subst e
      unfold pB
      rw [if_pos hP]
      exact ⟨by rw [pk_un (fun z => by have := (gx_inj (by omega) (by omega) z).2; omega), pk_us], pk_us ..⟩
    · obtain ⟨h1, h2⟩ := pB_at (B := B) (f := f) (g := g) hq hP i (by omega)
      unfold pB
      split
      · exact ⟨by rw [pk_un (fun z => e (gx_inj (by omega) (by omega) z).1), pk_un (fun z => e (gx_inj (by omega) (by omega) z).1)]; exact h1, by rw [pk_un (fun z => e (gx_inj (by omega) (by omega) z).1), pk_un (fun z => e (gx_inj (by omega) (by omega) z).1)]; exact h2⟩
      · exact ⟨h1, h2⟩
/-- the greens of phases below p -/
def pC (A : Ar) (j q n : Nat) (w : List Nat) (l ps : Nat → Nat) : Nat → Ar
  | 0 => A
  | p + 1 => pB (pC A j q n w l ps p) j q (fun g => decide (phs w g = p)) (fun _ => nI (stt l ps p)) (fun _ => nI (l p)) n
/-- all greens at once, as the class gives them -/
def pD (A : Ar) (j q : Nat) (w : List Nat) (l ps : Nat → Nat) (i : Nat) : Ar := pB A j q (fun _ => true) (fun g => nI (stt l ps (phs w g))) (fun g => nI (l (phs w g))) i
theorem pC_o {k : Nat} : ∀ p, (∀ a, a < n → k ≠ gx j a (9 + 2 * q) ∧ k ≠ gx j a (10 + 2 * q)) → pC A j q n w l ps p k = A k
  | 0, _ => rfl
  | p + 1, h => (pB_o n (fun a ha _ => h a ha)).trans (pC_o p h)
theorem pC_at (hq : q < 2) {a : Nat} (ha : a < n) : ∀ p, phs w a < p → pC A j q n w l ps p (gx j a (9 + 2 * q)) = nI (stt l ps (phs w a)) ∧ pC A j q n w l ps p (gx j a (10 + 2 * q)) = nI (l (phs w a))
  | 0, h => absurd h (by omega)
  | p + 1, h => by
    by_cases e : phs w a = p
    · have := pB_at (B := pC A j q n w l ps p) (j := j) (P := fun g => decide (phs w g = p)) (f := fun _ => nI (stt l ps p)) (g := fun _ => nI (l p)) hq (a := a) (decide_eq_true e) n ha
      rw [e]; exact this
    · obtain ⟨h1, h2⟩ := pC_at hq ha p (by omega)
      have ne : ∀ b w', b < n → decide (phs w b = p) = true → w' < 13 → w' ≥ 9 → ∀ u, u < 13 → gx j a u ≠ gx j b w' := fun b w' hb hd hw' _ u hu z => by
        have := (gx_inj hu hw' z).1
        subst this
        exact e (of_decide_eq_true hd)
      exact ⟨(pB_o n (fun b hb hd => ⟨ne b _ hb hd (by omega) (by omega) _ (by omega), ne b _ hb hd (by omega) (by omega) _ (by omega)⟩)).trans h1, (pB_o n (fun b hb hd => ⟨ne b _ hb hd (by omega) (by omega) _ (by omega), ne b _ hb hd (by omega) (by omega) _ (by omega)⟩)).trans h2⟩
theorem pCD (hq : q < 2) (hwL : ∀ g, g < n → phs w g < L) (k : Nat) : pC A j q n w l ps L k = pD A j q w l ps n k := by
  by_cases h : ∃ a, a < n ∧ (k = gx j a (9 + 2 * q) ∨ k = gx j a (10 + 2 * q))
  · obtain ⟨a, ha, hk⟩ := h
    obtain ⟨c1, c2⟩ := pC_at (A := A) (j := j) (l := l) (ps := ps) hq ha L (hwL a ha)
    obtain ⟨d1, d2⟩ := pB_at (B := A) (j := j) (P := fun _ => true) (f := fun g => nI (stt l ps (phs w g))) (g := fun g => nI (l (phs w g))) hq (a := a) rfl n ha
    rcases hk with rfl | rfl
    · exact c1.trans d1.symm
    · exact c2.trans d2.symm
  · have hk : ∀ a, a < n → k ≠ gx j a (9 + 2 * q) ∧ k ≠ gx j a (10 + 2 * q) := fun a ha => ⟨fun z => h ⟨a, ha, Or.inl z⟩, fun z => h ⟨a, ha, Or.inr z⟩⟩
    exact (pC_o L hk).trans (pB_o n (fun a ha _ => hk a ha)).symm
theorem x_give {M : Mem} (hR : RJ M J A j) (hn : A (ix j 2) = nI n) (hn6 : n ≤ 6) (hJ : J + 10 ≤ 465) (hq : q < 2) (hO : OA M 466 w) (hw : w.length = n) (hwL : ∀ g, g < n → phs w g < L) (hL : L ≤ 6) (h7 : ∀ p, p < L → M 467 p = nI (stt l ps p)) (h8 : ∀ p, p < L → M 468 p = nI (l p)) : ∃ M', fX3_giveGreens M J (nI q) = some ((), M') ∧ RJ M' J (pD A j q w l ps n) j ∧ Fr M M' J ∧ M' J 5 = M J 5 ∧ M' J 6 = M J 6 := by
  unfold fX3_giveGreens
  refine lp_inv (f := fX3_giveGreens_L1 J (nI q)) (fun i (s : Int32 × Mem) => s.1 = nI i ∧ RJ s.2 J (pD A j q w l ps i) j ∧ Fr M s.2 J ∧ s.2 J 5 = M J 5 ∧ s.2 J 6 = M J 6) (fun r => ∃ M', r = some ((), M') ∧ RJ M' J (pD A j q w l ps n) j ∧ Fr M M' J ∧ M' J 5 = M J 5 ∧ M' J 6 = M J 6) n (by omega) (fun i hi s hs => Or.inl ?_) (fun s hs => ?_) (0, M) ⟨rfl, hR, Fr.rf M J, rfl, rfl⟩
  · obtain ⟨x, K⟩ := s
    obtain ⟨a1, a2, a3, a4, a5⟩ := hs
    dsimp only at a1 a2 a3 a4 a5
    subst a1
    have hp := hwL i hi
    have e2 : pD A j q w l ps i (ix j 2) = nI n := (pB_o i (fun a _ _ => ⟨by unfold ix gx; omega, by unfold ix gx; omega⟩)).trans hn
    have e6 : K 466 i = nI (phs w i) := by rw [a3 466 (by omega)]; exact hO i (by omega)
    have e7 : K 467 (phs w i) = nI (stt l ps (phs w i)) := by rw [a3 467 (by omega)]; exact h7 _ hp
    have e8 : K 468 (phs w i) = nI (l (phs w i)) := by rw [a3 468 (by omega)]; exact h8 _ hp
    refine ⟨(nI (i + 1), mset (mset K (J + 8) (6 * q + i) (nI (stt l ps (phs w i)))) (J + 9) (6 * q + i) (nI (l (phs w i)))), ⟨rfl, ?_, (a3.set (by omega)).set (by omega), ?_, ?_⟩, fun k => ?_⟩
    · show RJ _ J (pD A j q w l ps (i + 1)) j
      have : pD A j q w l ps (i + 1) = upd (upd (pD A j q w l ps i) (gx j i (9 + 2 * q)) (nI (stt l ps (phs w i)))) (gx j i (10 + 2 * q)) (nI (l (phs w i))) := rfl
      rw [this]
      exact u_ln hq (by omega) _ (u_fs hq (by omega) _ a2)
    · show mset (mset K _ _ _) _ _ _ J 5 = _
      rw [ms_other _ _ _ (by omega), ms_other _ _ _ (by omega)]; exact a4
    · show mset (mset K _ _ _) _ _ _ J 6 = _
      rw [ms_other _ _ _ (by omega), ms_other _ _ _ (by omega)]; exact a5
    · simp only [fX3_giveGreens_L1]
      rw [a2.w (by omega), e2, if_neg (nI_ge hi (by omega)), grd_T (inb_nI (by omega) (by omega)), nI_clamp (show i < 2 ^ 31 by omega), e6, grd_T (inb_nI (by omega) (by omega)), grd_T (inb_nI (by omega) (by omega)), grd_T (inb_nI (by omega) (by omega)), nI_clamp (show phs w i < 2 ^ 31 by omega), e7, e8, x_setGreen hq (by omega), cl_e, bnd_e, nI_1]
  · obtain ⟨x, K⟩ := s
    obtain ⟨a1, a2, a3, a4, a5⟩ := hs
    dsimp only at a1 a2 a3 a4 a5
    subst a1
    have e2 : pD A j q w l ps n (ix j 2) = nI n := (pB_o n (fun a _ _ => ⟨by unfold ix gx; omega, by unfold ix gx; omega⟩)).trans hn
    refine ⟨_, ⟨K, rfl, a2, a3, a4, a5⟩, fun k => ?_⟩
    simp only [fX3_giveGreens_L1]
    rw [a2.w (by omega), e2, if_pos (nI_le (Nat.le_refl _) (by omega))]
/-! the reference -/
theorem m_ml4 {N : Mem} {B : Ar} {p : Nat} (hj : j < 4) (hn6 : n ≤ 6) (hq : q < 2) (hO : OA N 8 w) (hw : w.length = n) (h6 : sm6 w) (hp : p < 6) (h9 : N 9 p = nI (l p)) (z : Mem) (k46 : Mem → Option (Int32 × Mem)) : lp (fX10_make_L4 (nI j) (nI q) (nI n) (nI (stt l ps p), nI p, z) k46) FU (0, m1 N B) = k46 (m1 N (pB B j q (fun g => decide (phs w g = p)) (fun _ => nI (stt l ps p)) (fun _ => nI (l p)) n)) := by
  refine lp_at (fun i => (nI i, m1 N (pB B j q (fun g => decide (phs w g = p)) (fun _ => nI (stt l ps p)) (fun _ => nI (l p)) i))) n (by omega) rfl (fun i hi k => ?_) (fun k => ?_)
  · have hi6 := h6 i (by omega)
    simp only [fX10_make_L4]
    rw [if_neg (nI_ge hi (by omega)), grd_T (inb_nI (by omega) (by omega)), jn_e, nI_clamp (show i < 2 ^ 31 by omega), m1_o _ _ (by omega), hO i (by omega)]
    dsimp only
    show _ = k (_, m1 N (if decide (phs w i = p) = true then _ else _))
    by_cases e : w.getD i 0 = p
    · rw [if_pos (by rw [e]), grd_T (inb_nI hp (by omega)), nI_clamp (show p < 2 ^ 31 by omega), m1_o _ _ (by omega), h9, m_puts _ _ hj hq (show i < 6 by omega), cl_e, m1_set, m1_set, bnd_e, nI_1, if_pos (show decide (phs w i = p) = true from decide_eq_true e)]
    · rw [if_neg (fun y => e ((nI_eq (by omega) (by omega)).mp y)), bnd_e, nI_1, if_neg (show ¬ decide (phs w i = p) = true by rw [decide_eq_true_iff]; exact e)]
  · simp only [fX10_make_L4]
    rw [if_pos (nI_le (Nat.le_refl _) (by omega))]
theorem m_ml5 {N : Mem} (hj : j < 4) (hn6 : n ≤ 6) (hq : q < 2) (hO : OA N 8 w) (hw : w.length = n) (h6 : sm6 w) (hL : L ≤ 6) (h1 : N 1 = A) (h9 : ∀ p, p < L → N 9 p = nI (l p)) (h10 : ∀ p, p < L → N 10 p = nI (ps p)) (k18 : Mem → Option (Int32 × Mem)) : lp (fX10_make_L5 (nI j) (nI q) (nI n) (nI L) k18) FU (0, 0, N) = k18 (m1 N (pC A j q n w l ps L)) := by
  refine lp_at (fun p => (nI (stt l ps p), nI p, m1 N (pC A j q n w l ps p))) L (by omega) ?_ (fun p hp k => ?_) (fun k => ?_)
  · show ((0 : Int32), (0 : Int32), N) = (nI 0, nI 0, m1 N A)
    rw [← h1, m1_self]; rfl
  · simp only [fX10_make_L5]
    rw [if_neg (nI_ge hp (by omega)), jn_e, m_ml4 hj hn6 hq hO hw h6 (show p < 6 by omega) (h9 p hp), nI_clamp (show p < 2 ^ 31 by omega)]
    rw [grd_T (inb_nI (by omega) (by omega)), grd_T (inb_nI (by omega) (by omega)), m1_o _ _ (by omega), m1_o _ _ (by omega), h9 p hp, h10 p hp, nI_add, nI_add, bnd_e, bnd_e, nI_1]
    rfl
  · simp only [fX10_make_L5]
    rw [if_pos (nI_le (Nat.le_refl _) (by omega))]
end P87
