/-! conflicts: pairs and sides -/
def sm (f : Nat → Nat) : Nat → Nat
  | 0 => 0
  | n + 1 => sm f n + f n
theorem sm_cong {f g : Nat → Nat} : ∀ n, (∀ i, i < n → f i = g i) → sm f n = sm g n
  | 0, _ => rfl
  | n + 1, h => by unfold sm; rw [sm_cong n (fun i hi => h i (by omega)), h n (by omega)]
theorem sm_add (f g : Nat → Nat) : ∀ n, sm (fun i => f i + g i) n = sm f n + sm g n
  | 0 => rfl
  | n + 1 => by unfold sm; rw [sm_add f g n]; omega
theorem sm_cn (p : Nat → Bool) : ∀ n, sm (fun i => if p i then 1 else 0) n = cn p n
  | 0 => rfl
  | n + 1 => by unfold sm cn; rw [sm_cn p n]
theorem sides {c : Nat → Nat → Bool} : ∀ n, (∀ a b, a < n → b < n → c a b = c b a) → (∀ a, a < n → c a a = false) → sm (fun g => cn (c g) n) n = 2 * sm (fun b => cn (fun a => c a b) b) n
  | 0, _, _ => rfl
  | n + 1, hs, hi => by
    have ih := sides (c := c) n (fun a b ha hb => hs a b (by omega) (by omega)) (fun a ha => hi a (by omega))
    show sm (fun g => cn (c g) (n + 1)) n + cn (c n) (n + 1) = 2 * (sm (fun b => cn (fun a => c a b) b) n + cn (fun a => c a n) n)
    have e1 : sm (fun g => cn (c g) (n + 1)) n = sm (fun g => cn (c g) n) n + cn (fun a => c a n) n := by
      rw [← sm_cn, ← sm_add]; rfl
    have e2 : cn (c n) (n + 1) = cn (fun a => c a n) n := by
      show cn (c n) n + (if c n n then 1 else 0) = _
      rw [hi n (by omega), cn_cong n (fun i h => hs n i (by omega) (by omega))]; rfl
    rw [e1, e2, ih]; omega
theorem pairs {c : Nat → Nat → Bool} : ∀ n, sm (fun a => cn (fun i => c a (a + 1 + i)) (n - (a + 1))) n = sm (fun b => cn (fun a => c a b) b) n
  | 0 => rfl
  | n + 1 => by
    have ih := pairs (c := c) n
    show sm (fun a => cn (fun i => c a (a + 1 + i)) (n + 1 - (a + 1))) n + cn (fun i => c n (n + 1 + i)) (n + 1 - (n + 1)) = sm (fun b => cn (fun a => c a b) b) n + cn (fun a => c a n) n
    have e1 : sm (fun a => cn (fun i => c a (a + 1 + i)) (n + 1 - (a + 1))) n = sm (fun a => cn (fun i => c a (a + 1 + i)) (n - (a + 1))) n + cn (fun a => c a n) n := by
      rw [← sm_cn, ← sm_add]
      refine sm_cong n (fun a ha => ?_)
      rw [show n + 1 - (a + 1) = (n - (a + 1)) + 1 by omega]
      show cn _ _ + (if c a (a + 1 + (n - (a + 1))) = true then 1 else 0) = _
      rw [show a + 1 + (n - (a + 1)) = n by omega]
    rw [e1, ih, show n + 1 - (n + 1) = 0 by omega]; rfl
def bc (x : Int32) : Int32 :=
  let x1 := x - (((x.toUInt32 >>> ((1 : Int32).toUInt32 &&& Int32.toUInt32 31)).toInt32) &&& 1431655765)
  let x2 := (x1 &&& 858993459) + (((x1.toUInt32 >>> ((2 : Int32).toUInt32 &&& Int32.toUInt32 31)).toInt32) &&& 858993459)
  let x3 := (x2 + ((x2.toUInt32 >>> ((4 : Int32).toUInt32 &&& Int32.toUInt32 31)).toInt32)) &&& 252645135
  let x4 := x3 + ((x3.toUInt32 >>> ((8 : Int32).toUInt32 &&& Int32.toUInt32 31)).toInt32)
  let x5 := x4 + ((x4.toUInt32 >>> ((16 : Int32).toUInt32 &&& Int32.toUInt32 31)).toInt32)
  x5 &&& 63
theorem bc_e (M : Mem) (x : Int32) : fJ6_bitCount_0f7a4 M x = some (bc x) := rfl
theorem six (p : Nat → Bool) : ∀ i, i < 6 → p i = [p 0, p 1, p 2, p 3, p 4, p 5].getD i false := fun i hi => by
  rcases (show i = 0 ∨ i = 1 ∨ i = 2 ∨ i = 3 ∨ i = 4 ∨ i = 5 by omega) with rfl | rfl | rfl | rfl | rfl | rfl <;> rfl
theorem bc_bits (p : Nat → Bool) {n : Nat} (h6 : n ≤ 6) : bc (bits p n) = nI (cn p n) := by
  have key : ∀ a b c d e f : Bool, ∀ n : Fin 7, bc (bits (fun i => [a, b, c, d, e, f].getD i false) n.val) = nI (cn (fun i => [a, b, c, d, e, f].getD i false) n.val) := by decide +kernel
  have h2 := key (p 0) (p 1) (p 2) (p 3) (p 4) (p 5) ⟨n, by omega⟩
  rw [bits_cong n (fun i hi => six p i (by omega)), cn_cong n (fun i hi => six p i (by omega))]
  exact h2
theorem half {P : Nat} (h : P < 100) : nI (2 * P) / 2 = nI P := by
  have key : ∀ P : Fin 100, nI (2 * P.val) / 2 = nI P.val := by decide +kernel
  exact key ⟨P, h⟩
def cfs (A : Ar) (j n : Nat) : Nat := sm (fun b => cn (fun a => cf A j a b) b) n
theorem sm_le {f : Nat → Nat} {m : Nat} : ∀ n, (∀ i, i < n → f i ≤ m) → sm f n ≤ n * m
  | 0, _ => by simp [sm]
  | n + 1, h => by
    have := sm_le (f := f) (m := m) n (fun i hi => h i (by omega))
    have h2 := h n (by omega)
    show sm f n + f n ≤ _
    rw [Nat.succ_mul]; omega
theorem cf_sym {A : Ar} {j : Nat} (v : VJ A j) {a b : Nat} (ha : a < 6) (hb : b < 6) : cf A j a b = cf A j b a := by
  have h1 := (v.2.2.2.2.2.2.2 a ha b hb).2.1
  have h2 := (v.2.2.2.2.2.2.2 b hb a ha).2.1
  unfold cf
  by_cases c : 0 ≤ kl A j a b
  · rw [decide_eq_true c, decide_eq_true (h1 c)]
  · rw [decide_eq_false c, decide_eq_false (fun z => c (h2 z))]
theorem cf_irr {A : Ar} {j : Nat} (v : VJ A j) {a : Nat} (ha : a < 6) : cf A j a a = false := by
  have h1 := (v.2.2.2.2.2.2.2 a ha a ha).2.2.1
  unfold cf
  exact decide_eq_false (fun z => (h1 z).1 rfl)
theorem x_conflictCount {M : Mem} {J : Nat} {A : Ar} {j : Nat} (h : RJ M J A j) (hl : nI j < A 2) (v : VJ A j) {n : Nat} (hn : A (ix j 2) = nI n) (h6 : n ≤ 6) : fX2_conflictCount M J = some (nI (cfs A j n)) := by
  unfold fX2_conflictCount
  rw [jn_e]
  have hs := sides (c := fun a b => cf A j a b) n (fun a b ha hb => cf_sym v (by omega) (by omega)) (fun a ha => cf_irr v (by omega))
  have hle : cfs A j n ≤ n * 6 := sm_le n (fun i hi => Nat.le_trans (cn_le _ i) (by omega))
  refine lp_at (fun i => (nI (sm (fun g => cn (fun o => cf A j g o) n) i), nI i)) n (by omega) rfl (fun i hi k => ?_) (fun k => ?_)
  · simp only [fX2_conflictCount_L1]
    rw [if_neg (by rw [h.w (by omega), hn]; exact nI_ge hi (by omega)), x_confSet h hl v hn h6 (by omega), clp_e, bc_e, clp_e, bnd_e, bnd_e, bc_bits _ h6, nI_add, nI_1]
    rfl
  · simp only [fX2_conflictCount_L1]
    rw [if_pos (by rw [h.w (by omega), hn]; exact nI_le (Nat.le_refl _) (by omega)), grd_T (by decide), hs]
    show some (nI (2 * cfs A j n) / 2) = _
    rw [half (by omega)]
theorem cf_neg {A : Ar} {j a b : Nat} {β : Type} (x y : β) : (if kl A j a b < 0 then x else y) = if cf A j a b = true then y else x := by
  unfold cf
  by_cases c : kl A j a b < 0
  · rw [if_pos c, if_neg (by rw [decide_eq_true_iff, ti_le]; rw [ti_lt] at c; omega)]
  · rw [if_neg c, if_pos (by rw [decide_eq_true_iff, ti_le]; rw [ti_lt] at c; omega)]
theorem m_conflicts {M : Mem} {j : Nat} (hj : j < 4) {n : Nat} (hn : M 1 (ix j 2) = nI n) (h6 : n ≤ 6) : fX10_conflicts M (nI j) = some (nI (cfs (M 1) j n)) := by
  have hp := pairs (c := fun a b => cf (M 1) j a b) n
  unfold fX10_conflicts
  refine lp_at (fun i => (nI (sm (fun a => cn (fun i => cf (M 1) j a (a + 1 + i)) (n - (a + 1))) i), nI i)) n (by omega) rfl (fun i hi k => ?_) (fun k => ?_)
  · simp only [fX10_conflicts_L2]
    rw [m_of2 hj, hn, clp_e, if_neg (nI_ge hi (by omega)), bnd_e, jn_e, nI_1]
    refine lp_at (fun q => (nI (sm (fun a => cn (fun i => cf (M 1) j a (a + 1 + i)) (n - (a + 1))) i + cn (fun r => cf (M 1) j i (i + 1 + r)) q), nI (i + 1 + q))) (n - (i + 1)) (by omega) rfl (fun q hq k2 => ?_) (fun k2 => ?_)
    · simp only [fX10_conflicts_L1]
      rw [m_of2 hj, hn, clp_e, if_neg (nI_ge (by omega) (by omega)), m_clear hj (by omega) (by omega), clp_e, jn_e, cf_neg]
      simp only [bnd_e, nI_1]
      by_cases hb : cf (M 1) j i (i + 1 + q) = true
      · rw [if_pos hb]; simp only [cn, hb, if_true]; rfl
      · rw [if_neg hb]; simp only [cn, hb, if_false]; rfl
    · simp only [fX10_conflicts_L1]
      rw [m_of2 hj, hn, clp_e, if_pos (nI_le (by omega) (by omega)), bnd_e]
      rfl
  · simp only [fX10_conflicts_L2]
    rw [m_of2 hj, hn, clp_e, if_pos (nI_le (Nat.le_refl _) (by omega)), hp]
    rfl
