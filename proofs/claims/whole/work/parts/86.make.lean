/-! call: make : the seconds that are left, spread over the phases -/
def stp (most i : Nat) (t : (Nat → Nat) × Nat) : (Nat → Nat) × Nat := if t.2 = 0 then t else if t.1 i < most then (fun k => if k = i then t.1 i + 1 else t.1 k, t.2 - 1) else t
def pazz (most : Nat) (s : (Nat → Nat) × Nat) : Nat → (Nat → Nat) × Nat
  | 0 => s
  | i + 1 => stp most i (pazz most s i)
theorem stp_stop {most i : Nat} {t : (Nat → Nat) × Nat} (h : t.2 = 0) : stp most i t = t := if_pos h
theorem pazz_stop {most : Nat} {s : (Nat → Nat) × Nat} {i : Nat} (h : (pazz most s i).2 = 0) : ∀ m, i ≤ m → pazz most s m = pazz most s i
  | 0, hm => by rw [show i = 0 by omega]
  | m + 1, hm => by
    by_cases e : i = m + 1
    · rw [e]
    · have ih := pazz_stop h m (by omega)
      show stp most m (pazz most s m) = _
      rw [ih, stp_stop h]
theorem stp_b {most i : Nat} {t : (Nat → Nat) × Nat} {B : Nat} (hm : most ≤ B) (h : ∀ k, t.1 k ≤ B) : ∀ k, (stp most i t).1 k ≤ B := by
  intro k
  unfold stp
  split
  · exact h k
  · split
    · dsimp only
      split
      · omega
      · exact h k
    · exact h k
theorem stp_2 {most i : Nat} {t : (Nat → Nat) × Nat} : (stp most i t).2 ≤ t.2 ∧ ((stp most i t).2 = t.2 → stp most i t = t) := by
  unfold stp
  split
  · exact ⟨Nat.le_refl _, fun _ => rfl⟩
  · split
    · exact ⟨by dsimp only; omega, fun z => by dsimp only at z; omega⟩
    · exact ⟨Nat.le_refl _, fun _ => rfl⟩
theorem pazz_b {most : Nat} {s : (Nat → Nat) × Nat} {B : Nat} (hm : most ≤ B) (h : ∀ k, s.1 k ≤ B) : ∀ i k, (pazz most s i).1 k ≤ B
  | 0, k => h k
  | i + 1, k => stp_b hm (pazz_b hm h i) k
theorem pazz_2 {most : Nat} {s : (Nat → Nat) × Nat} : ∀ i, (pazz most s i).2 ≤ s.2 ∧ ((pazz most s i).2 = s.2 → pazz most s i = s)
  | 0 => ⟨Nat.le_refl _, fun _ => rfl⟩
  | i + 1 => by
    obtain ⟨a, b⟩ := pazz_2 (most := most) (s := s) i
    obtain ⟨c, d⟩ := stp_2 (most := most) (i := i) (t := pazz most s i)
    refine ⟨Nat.le_trans c a, fun z => ?_⟩
    show stp most i (pazz most s i) = s
    have z' : (stp most i (pazz most s i)).2 = s.2 := z
    rw [d (by omega), b (by omega)]
theorem stp_ge {most i : Nat} {t : (Nat → Nat) × Nat} (k : Nat) : t.1 k ≤ (stp most i t).1 k := by
  unfold stp
  split
  · exact Nat.le_refl _
  · split
    · dsimp only
      split
      · rename_i h; rw [h]; omega
      · exact Nat.le_refl _
    · exact Nat.le_refl _
theorem pazz_ge {most : Nat} {s : (Nat → Nat) × Nat} (k : Nat) : ∀ i, s.1 k ≤ (pazz most s i).1 k
  | 0 => Nat.le_refl _
  | i + 1 => Nat.le_trans (pazz_ge k i) (stp_ge k)
theorem sm_upd (f g : Nat → Nat) (i : Nat) : ∀ L, sm (fun p => (if p = i then f i + 1 else f p) + g p) L = sm (fun p => f p + g p) L + (if i < L then 1 else 0)
  | 0 => rfl
  | L + 1 => by
    have ih := sm_upd f g i L
    unfold sm
    rw [ih]
    by_cases e : L = i
    · subst e; rw [if_pos rfl, if_neg (by omega), if_pos (by omega)]; omega
    · rw [if_neg e]
      by_cases z : i < L
      · rw [if_pos z, if_pos (by omega)]; omega
      · rw [if_neg z, if_neg (by omega)]; omega
theorem stp_tot {most i L : Nat} (g : Nat → Nat) {t : (Nat → Nat) × Nat} (hi : i < L) : sm (fun p => (stp most i t).1 p + g p) L + (stp most i t).2 = sm (fun p => t.1 p + g p) L + t.2 := by
  unfold stp
  split
  · rfl
  · split
    · dsimp only
      rw [sm_upd, if_pos hi]; omega
    · rfl
theorem pazz_tot {most L : Nat} (g : Nat → Nat) {s : (Nat → Nat) × Nat} : ∀ i, i ≤ L → sm (fun p => (pazz most s i).1 p + g p) L + (pazz most s i).2 = sm (fun p => s.1 p + g p) L + s.2
  | 0, _ => rfl
  | i + 1, h => (stp_tot g (by omega)).trans (pazz_tot g i (by omega))
def rnd (most L : Nat) (s : (Nat → Nat) × Nat) : Nat → (Nat → Nat) × Nat
  | 0 => s
  | k + 1 => pazz most (rnd most L s k) L
theorem rnd_fix {most L : Nat} {s : (Nat → Nat) × Nat} {i : Nat} (h : pazz most (rnd most L s i) L = rnd most L s i) : ∀ m, i ≤ m → rnd most L s m = rnd most L s i
  | 0, hm => by rw [show i = 0 by omega]
  | m + 1, hm => by
    by_cases e : i = m + 1
    · rw [e]
    · have ih := rnd_fix h m (by omega)
      show pazz most (rnd most L s m) L = _
      rw [ih, h]
theorem rnd_b {most L : Nat} {s : (Nat → Nat) × Nat} {B : Nat} (hm : most ≤ B) (h : ∀ k, s.1 k ≤ B) : ∀ i k, (rnd most L s i).1 k ≤ B
  | 0, k => h k
  | i + 1, k => pazz_b hm (rnd_b hm h i) L k
theorem rnd_2 {most L : Nat} {s : (Nat → Nat) × Nat} : ∀ i, (rnd most L s i).2 ≤ s.2
  | 0 => Nat.le_refl _
  | i + 1 => Nat.le_trans (pazz_2 L).1 (rnd_2 i)
theorem rnd_ge {most L : Nat} {s : (Nat → Nat) × Nat} (k : Nat) : ∀ i, s.1 k ≤ (rnd most L s i).1 k
  | 0 => Nat.le_refl _
  | i + 1 => Nat.le_trans (rnd_ge k i) (pazz_ge k L)
theorem rnd_tot {most L : Nat} (g : Nat → Nat) {s : (Nat → Nat) × Nat} : ∀ i, sm (fun p => (rnd most L s i).1 p + g p) L + (rnd most L s i).2 = sm (fun p => s.1 p + g p) L + s.2
  | 0 => rfl
  | i + 1 => (pazz_tot g L (Nat.le_refl _)).trans (rnd_tot g i)
theorem rnd_stop {most L : Nat} {s : (Nat → Nat) × Nat} {i : Nat} (h : (rnd most L s i).2 = 0) : pazz most (rnd most L s i) L = rnd most L s i := pazz_stop (i := 0) h L (Nat.zero_le _)
/-- the lengths l stand in the first b places of object o0 -/
def slm (M : Mem) (o0 b : Nat) (l : Nat → Nat) : Mem := fun o k => if o = o0 ∧ k < b then nI (l k) else M o k
theorem slm_o (M : Mem) {o0 o b : Nat} (l : Nat → Nat) (h : o ≠ o0) : slm M o0 b l o = M o := by
  funext k; unfold slm; rw [if_neg (fun z => h z.1)]
theorem slm_at (M : Mem) (o0 : Nat) {b : Nat} (l : Nat → Nat) {k : Nat} (h : k < b) : slm M o0 b l o0 k = nI (l k) := by
  unfold slm; rw [if_pos ⟨rfl, h⟩]
theorem slm_self {M : Mem} {o0 b : Nat} {l : Nat → Nat} (h : ∀ k, k < b → M o0 k = nI (l k)) : slm M o0 b l = M := by
  funext o k
  unfold slm
  by_cases e : o = o0 ∧ k < b
  · rw [if_pos e, e.1, h k e.2]
  · rw [if_neg e]
theorem slm_set (M : Mem) (o0 : Nat) {b : Nat} (l : Nat → Nat) {i : Nat} (v : Nat) (h : i < b) : mset (slm M o0 b l) o0 i (nI v) = slm M o0 b (fun k => if k = i then v else l k) := by
  funext o k
  rw [ms_at]
  unfold slm
  by_cases e : o = o0 ∧ k = i
  · rw [if_pos e, if_pos ⟨e.1, by omega⟩]
    show nI v = nI (if k = i then v else l k)
    rw [if_pos e.2]
  · rw [if_neg e]
    by_cases z : o = o0 ∧ k < b
    · rw [if_pos z, if_pos z]
      show nI (l k) = nI (if k = i then v else l k)
      rw [if_neg (fun y => e ⟨z.1, y⟩)]
    · rw [if_neg z, if_neg z]
theorem nI_m1 {a : Nat} (h : 0 < a) : nI a + (-1) = nI (a - 1) := by
  have := nI_pred (a - 1)
  rw [show a - 1 + 1 = a by omega] at this
  rw [← this, Int32.sub_eq_add_neg]
theorem x_pass {M : Mem} {most L : Nat} {s : (Nat → Nat) × Nat} (h465 : M 465 0 = nI L) (hL : L ≤ 6) (hm : most ≤ 200) (hs : ∀ k, s.1 k ≤ 200) (h2 : s.2 ≤ 200) (k6 : Int32 × Mem → Option (Unit × Mem)) : lp (fX3_spread_L1 (nI most) k6) FU (nI s.2, 0, slm M 468 L s.1) = k6 (nI (pazz most s L).2, slm M 468 L (pazz most s L).1) := by
  have e465 : ∀ l, slm M 468 L l 465 0 = nI L := fun l => by rw [slm_o _ _ (by omega)]; exact h465
  have b2 : ∀ i, (pazz most s i).2 ≤ 200 := fun i => Nat.le_trans (pazz_2 i).1 h2
  have main := lp_srch (f := fX3_spread_L1 (nI most) k6) (s0 := (nI s.2, 0, slm M 468 L s.1)) (fun i => (nI (pazz most s i).2, nI i, slm M 468 L (pazz most s i).1)) (fun i => decide (0 < (pazz most s i).2)) (rt := k6 (nI (pazz most s L).2, slm M 468 L (pazz most s L).1)) (rf := fun i => k6 (nI (pazz most s i).2, slm M 468 L (pazz most s i).1)) L (by omega) rfl
    (fun i hi ht k => by
      have ht' : 0 < (pazz most s i).2 := of_decide_eq_true ht
      have bb := pazz_b hm hs i i
      have b2i := b2 i
      simp only [fX3_spread_L1]
      rw [e465, if_neg (nI_ge hi (by omega)), if_neg (nI_nle ht' (by omega)), grd_T (inb_nI (by omega) (by omega)), jn_e, nI_clamp (by omega), slm_at _ _ _ (by omega)]
      dsimp only
      show _ = k (nI (stp most i (pazz most s i)).2, nI (i + 1), slm M 468 L (stp most i (pazz most s i)).1)
      unfold stp
      rw [if_neg (show ¬ (pazz most s i).2 = 0 by omega)]
      by_cases c : (pazz most s i).1 i < most
      · rw [if_neg (nI_ge c (by omega)), if_pos c, grd_T (inb_nI (by omega) (by omega)), grd_T (inb_nI (by omega) (by omega)), nI_1, slm_set _ _ _ _ (by omega), bnd_e, nI_m1 ht', bnd_e, bnd_e, nI_1]
      · rw [if_pos (nI_le (by omega) (by omega)), if_neg c, bnd_e, nI_1])
    (fun i hi ht k => by
      have ht' : (pazz most s i).2 = 0 := by have := of_decide_eq_false ht; omega
      simp only [fX3_spread_L1]
      rw [e465, if_neg (nI_ge hi (by omega)), ht', if_pos (show nI 0 ≤ 0 by decide)])
    (fun k => by
      simp only [fX3_spread_L1]
      rw [e465, if_pos (nI_le (Nat.le_refl _) (by omega))])
  rcases main with ⟨_, m⟩ | ⟨i, m1, m2, m3, m4⟩
  · exact m
  · rw [m4, pazz_stop (i := i) (by have := of_decide_eq_false m2; omega) L (by omega)]
theorem x_spread {M : Mem} {most L left : Nat} {l : Nat → Nat} (h465 : M 465 0 = nI L) (hL : L ≤ 6) (hm : most ≤ 200) (hs : ∀ k, l k ≤ 200) (h2 : left ≤ 200) : fX3_spread (slm M 468 L l) (nI left) (nI most) = some ((), slm M 468 L (rnd most L (l, left) left).1) := by
  unfold fX3_spread
  rw [jn_e]
  have main := lp_srch (f := fX3_spread_L2 (nI left) (nI most) (fun a1 => some ((), a1))) (s0 := (nI left, 0, slm M 468 L l)) (fun i => (nI (rnd most L (l, left) i).2, nI i, slm M 468 L (rnd most L (l, left) i).1)) (fun i => decide (0 < (rnd most L (l, left) i).2)) (rt := some ((), slm M 468 L (rnd most L (l, left) left).1)) (rf := fun i => some ((), slm M 468 L (rnd most L (l, left) i).1)) left (by omega) rfl
    (fun i hi ht k => by
      have ht' : 0 < (rnd most L (l, left) i).2 := of_decide_eq_true ht
      have b2i := rnd_2 (most := most) (L := L) (s := (l, left)) i
      dsimp only at b2i
      simp only [fX3_spread_L2]
      rw [if_neg (nI_ge hi (by omega)), if_neg (nI_nle ht' (by omega)), jn_e, x_pass h465 hL hm (rnd_b hm hs i) (by omega), bnd_e, nI_1]
      rfl)
    (fun i hi ht k => by
      have ht' : (rnd most L (l, left) i).2 = 0 := by have := of_decide_eq_false ht; omega
      simp only [fX3_spread_L2]
      rw [if_neg (nI_ge hi (by omega)), ht', if_pos (show nI 0 ≤ 0 by decide)])
    (fun k => by
      simp only [fX3_spread_L2]
      rw [if_pos (nI_le (Nat.le_refl _) (by omega))])
  rcases main with ⟨_, m⟩ | ⟨i, m1, m2, m3, m4⟩
  · exact m
  · rw [m4, rnd_fix (i := i) (rnd_stop (by have := of_decide_eq_false m2; omega)) left (by omega)]
/-! the reference -/
theorem m_pass {N : Mem} {c L : Nat} {s : (Nat → Nat) × Nat} (hc : N 1 0 = nI c) (hc5 : 5 ≤ c) (hc2 : c ≤ 120) (hL : L ≤ 6) (hs : ∀ k, s.1 k ≤ 200) (h2 : s.2 ≤ 200) (k59 : Int32 × Int32 × Mem → Option (Int32 × Mem)) : lp (fX10_make_L6 (nI L) k59) FU (nI s.2, 0, 0, slm N 9 L s.1) = k59 (nI (pazz (c - 5) s L).2, b01 (decide ((pazz (c - 5) s L).2 < s.2)), slm N 9 L (pazz (c - 5) s L).1) := by
  have e0 : ∀ l, slm N 9 L l 1 0 = nI c := fun l => by rw [slm_o _ _ (by omega)]; exact hc
  have b2 : ∀ i, (pazz (c - 5) s i).2 ≤ 200 := fun i => Nat.le_trans (pazz_2 i).1 h2
  have em : nI c - 5 = nI (c - 5) := nI_sub (a := c) (b := 5) hc5
  have main := lp_srch (f := fX10_make_L6 (nI L) k59) (s0 := (nI s.2, 0, 0, slm N 9 L s.1)) (fun i => (nI (pazz (c - 5) s i).2, b01 (decide ((pazz (c - 5) s i).2 < s.2)), nI i, slm N 9 L (pazz (c - 5) s i).1)) (fun i => decide (0 < (pazz (c - 5) s i).2)) (rt := k59 (nI (pazz (c - 5) s L).2, b01 (decide ((pazz (c - 5) s L).2 < s.2)), slm N 9 L (pazz (c - 5) s L).1)) (rf := fun i => k59 (nI (pazz (c - 5) s i).2, b01 (decide ((pazz (c - 5) s i).2 < s.2)), slm N 9 L (pazz (c - 5) s i).1)) L (by omega) (by
      show (nI s.2, (0 : Int32), (0 : Int32), slm N 9 L s.1) = (nI s.2, b01 (decide (s.2 < s.2)), nI 0, slm N 9 L s.1)
      rw [decide_eq_false (by omega)]; rfl)
    (fun i hi ht k => by
      have ht' : 0 < (pazz (c - 5) s i).2 := of_decide_eq_true ht
      have bb := pazz_b (B := 200) (show c - 5 ≤ 200 by omega) hs i i
      have b2i := b2 i
      have p2 := (pazz_2 (most := c - 5) (s := s) i).1
      simp only [fX10_make_L6]
      rw [if_neg (nI_ge hi (by omega)), if_neg (nI_nle ht' (by omega)), grd_T (inb_nI (by omega) (by omega)), grd_T ib0, tc0, jn_e, nI_clamp (by omega), slm_at _ _ _ (by omega), e0, em]
      dsimp only
      show _ = k (nI (stp (c - 5) i (pazz (c - 5) s i)).2, b01 (decide ((stp (c - 5) i (pazz (c - 5) s i)).2 < s.2)), nI (i + 1), slm N 9 L (stp (c - 5) i (pazz (c - 5) s i)).1)
      unfold stp
      rw [if_neg (show ¬ (pazz (c - 5) s i).2 = 0 by omega)]
      by_cases z : (pazz (c - 5) s i).1 i < c - 5
      · rw [if_pos (nI_lt z (by omega)), if_pos z, grd_T (inb_nI (by omega) (by omega)), grd_T (inb_nI (by omega) (by omega)), nI_1, slm_set _ _ _ _ (by omega), bnd_e, nI_m1 ht', bnd_e, bnd_e, nI_1]
        dsimp only
        rw [decide_eq_true (show (pazz (c - 5) s i).2 - 1 < s.2 by omega)]; rfl
      · rw [if_neg (nI_nlt (by omega) (by omega)), if_neg z, bnd_e, nI_1])
    (fun i hi ht k => by
      have ht' : (pazz (c - 5) s i).2 = 0 := by have := of_decide_eq_false ht; omega
      simp only [fX10_make_L6]
      rw [if_neg (nI_ge hi (by omega)), ht', if_pos (show nI 0 ≤ 0 by decide)])
    (fun k => by
      simp only [fX10_make_L6]
      rw [if_pos (nI_le (Nat.le_refl _) (by omega))])
  rcases main with ⟨_, m⟩ | ⟨i, m1, m2, m3, m4⟩
  · exact m
  · rw [m4, pazz_stop (i := i) (by have := of_decide_eq_false m2; omega) L (by omega)]
/-- whether round i changed anything -/
def gos (most L : Nat) (s : (Nat → Nat) × Nat) : Nat → Bool
  | 0 => true
  | i + 1 => decide ((rnd most L s (i + 1)).2 < (rnd most L s i).2)
theorem gos_all {most L : Nat} {s : (Nat → Nat) × Nat} : ∀ i, (∀ q, q ≤ i → gos most L s q = true) → (rnd most L s i).2 + i ≤ s.2
  | 0, _ => Nat.le_refl _
  | i + 1, h => by
    have ih := gos_all i (fun q hq => h q (by omega))
    have := of_decide_eq_true (h (i + 1) (Nat.le_refl _))
    omega
theorem m_spread {N : Mem} {c L left : Nat} {l : Nat → Nat} (hc : N 1 0 = nI c) (hc5 : 5 ≤ c) (hc2 : c ≤ 120) (hL : L ≤ 6) (hs : ∀ k, l k ≤ 200) (h2 : left ≤ 200) (k16 : Mem → Option (Int32 × Mem)) : lp (fX10_make_L7 (nI L) k16) FU (nI left, 1, slm N 9 L l) = k16 (slm N 9 L (rnd (c - 5) L (l, left) left).1) := by
  have ex : ∃ i, i < left + 1 ∧ (gos (c - 5) L (l, left) i && decide (0 < (rnd (c - 5) L (l, left) i).2)) = false ∧ ∀ q, q < i → (gos (c - 5) L (l, left) q && decide (0 < (rnd (c - 5) L (l, left) q).2)) = true := by
    refine al_F (p := fun i => gos (c - 5) L (l, left) i && decide (0 < (rnd (c - 5) L (l, left) i).2)) (n := left + 1) ?_
    rw [Bool.eq_false_iff]
    intro z
    have h := al_T.mp z
    have h1 := gos_all (most := c - 5) (L := L) (s := (l, left)) left (fun q hq => by have := h q (by omega); rw [Bool.and_eq_true] at this; exact this.1)
    have h3 := h left (by omega)
    rw [Bool.and_eq_true, decide_eq_true_iff] at h3
    dsimp only at h1
    omega
  obtain ⟨i, i1, i2, i3⟩ := ex
  have hfin : (rnd (c - 5) L (l, left) left).1 = (rnd (c - 5) L (l, left) i).1 := by
    by_cases z : (rnd (c - 5) L (l, left) i).2 = 0
    · rw [rnd_fix (rnd_stop z) left (by omega)]
    · have hg : gos (c - 5) L (l, left) i = false := by
        rw [Bool.and_eq_false_iff] at i2
        rcases i2 with i2 | i2
        · exact i2
        · exact absurd (of_decide_eq_false i2) (by omega)
      cases i with
      | zero => cases hg
      | succ i =>
        have hlt := of_decide_eq_false hg
        obtain ⟨p1, p2⟩ := pazz_2 (most := c - 5) (s := rnd (c - 5) L (l, left) i) L
        have hlt' : ¬ (pazz (c - 5) (rnd (c - 5) L (l, left) i) L).2 < (rnd (c - 5) L (l, left) i).2 := hlt
        have e := p2 (by omega)
        rw [rnd_fix e left (by omega), rnd_fix e (i + 1) (by omega)]
  rw [hfin]
  refine lp_at (fun i => (nI (rnd (c - 5) L (l, left) i).2, b01 (gos (c - 5) L (l, left) i), slm N 9 L (rnd (c - 5) L (l, left) i).1)) i (by omega) rfl (fun q hq k => ?_) (fun k => ?_)
  · have h3 := i3 q hq
    rw [Bool.and_eq_true, decide_eq_true_iff] at h3
    have b2i := rnd_2 (most := c - 5) (L := L) (s := (l, left)) q
    dsimp only at b2i
    simp only [fX10_make_L7]
    rw [h3.1, if_neg (show ¬ b01 true = 0 by decide), if_neg (nI_nle h3.2 (by omega)), jn_e, m_pass hc hc5 hc2 hL (rnd_b (by omega) hs q) (by omega)]
    rfl
  · simp only [fX10_make_L7]
    rw [Bool.and_eq_false_iff] at i2
    by_cases z : gos (c - 5) L (l, left) i = true
    · have z2 : (rnd (c - 5) L (l, left) i).2 = 0 := by
        rcases i2 with i2 | i2
        · rw [z] at i2; cases i2
        · have := of_decide_eq_false i2; omega
      rw [z, if_neg (show ¬ b01 true = 0 by decide), z2, if_pos (show nI 0 ≤ 0 by decide)]
    · rw [Bool.not_eq_true _ |>.mp z, if_pos (show b01 false = 0 from rfl)]
