/-! call: text : the reference reads a command -/
def RP (s : Nat → Int32) (l : Nat) (N : Mem) (p : Nat) : Prop := l ≤ 60 ∧ N 0 8 = nI l ∧ (∀ k, k < l → N 5 k = s k) ∧ N 0 9 = nI p ∧ p ≤ 60
/-- place and numbers alone change -/
def RK (N N' : Mem) : Prop := (∀ o, o ≠ 0 → o ≠ 7 → N' o = N o) ∧ ∀ k, k ≠ 9 → N' 0 k = N 0 k
theorem RK.rf (N : Mem) : RK N N := ⟨fun _ _ _ => rfl, fun _ _ => rfl⟩
theorem RK.tr {M N K : Mem} (h : RK M N) (h' : RK N K) : RK M K := ⟨fun o a b => (h'.1 o a b).trans (h.1 o a b), fun k a => (h'.2 k a).trans (h.2 k a)⟩
theorem RK.pl (N : Mem) (v : Int32) : RK N (mset N 0 9 v) := ⟨fun o a _ => ms_other _ _ _ a, fun k hk => by rw [ms_at, if_neg (fun z => hk z.2)]⟩
section P93
variable {s : Nat → Int32} {l : Nat} {N : Mem} {p : Nat}
theorem RP.pl (h : RP s l N p) {q : Nat} (hq : q ≤ 60) : RP s l (mset N 0 9 (nI q)) q := by
  obtain ⟨h1, h2, h3, h4, h5⟩ := h
  exact ⟨h1, by rw [ms_at, if_neg (by omega)]; exact h2, fun k hk => by rw [ms_other _ _ _ (by omega)]; exact h3 k hk, by rw [ms_at, if_pos ⟨rfl, rfl⟩], hq⟩
theorem RP.it (h : RP s l N p) (i : Nat) (v : Int32) : RP s l (mset N 7 i v) p := by
  obtain ⟨h1, h2, h3, h4, h5⟩ := h
  exact ⟨h1, by rw [ms_other _ _ _ (by omega)]; exact h2, fun k hk => by rw [ms_other _ _ _ (by omega)]; exact h3 k hk, by rw [ms_other _ _ _ (by omega)]; exact h4, h5⟩
theorem m_here (h : RP s l N p) : fX10_here N = some (if p < l then s p else 0) := by
  obtain ⟨h1, h2, h3, h4, h5⟩ := h
  unfold fX10_here
  rw [jn_e, h2, h4]
  by_cases c : p < l
  · rw [if_neg (nI_ge c (by omega)), if_pos c, grd_T (inb_nI (by omega) (by omega)), nI_clamp (by omega), h3 p c]
  · rw [if_pos (nI_le (by omega) (by omega)), if_neg c]
theorem m_takes (h : RP s l N p) {c : Int32} (hc : c ≠ 0) : fX10_takes N c = if (decide (p < l) && decide (s p = c)) = true then some (1, mset N 0 9 (nI (p + 1))) else some (0, N) := by
  unfold fX10_takes
  rw [m_here h, clp_e, h.2.2.2.1, nI_1]
  by_cases z : p < l
  · rw [if_pos z, decide_eq_true z, Bool.true_and]
    by_cases e : s p = c
    · rw [if_pos e, if_pos (decide_eq_true e), bnd_e]
    · rw [if_neg e, if_neg (by rw [decide_eq_true_iff]; exact e)]
  · rw [if_neg z, if_neg (fun y => hc y.symm), decide_eq_false z]; rfl
/-- in: a range without 0 -/
theorem m_in (h : RP s l N p) {a b : Int32} (ha : 0 < a.toInt) : clp (fX10_here N) (fun x => fX10_in N x a b) = some (b01 (decide (p < l) && (decide (a ≤ s p) && decide (s p ≤ b)))) := by
  have z0 : Int32.toInt 0 = 0 := rfl
  rw [m_here h, clp_e, f_in]
  by_cases z : p < l
  · rw [if_pos z, decide_eq_true z, Bool.true_and]
  · rw [if_neg z, decide_eq_false z, decide_eq_false (show ¬ a ≤ 0 by rw [ti_le, z0]; omega)]; rfl
theorem dst_fin (s : Nat → Int32) (l p : Nat) {t : Nat} (ht : t ≤ 4) (h1 : (dst s l p t).1 = t) (h2 : t = 4 ∨ dcond s l p t (dst s l p t).2 = false) : dst s l p 4 = dst s l p t := by
  rcases h2 with h2 | h2
  · rw [h2]
  · have key : ∀ q, t ≤ q → dst s l p q = dst s l p t := by
      intro q
      induction q with
      | zero => intro z; rw [show t = 0 by omega]
      | succ q ih =>
        intro z
        by_cases eq : t = q + 1
        · rw [eq]
        · have := ih (by omega)
          show (if (dst s l p q).1 = q ∧ dcond s l p q (dst s l p q).2 = true then _ else dst s l p q) = _
          rw [this, h1, if_neg]
          rintro ⟨y1, y2⟩
          subst y1
          rw [h2] at y2; cases y2
    exact key 4 ht
theorem m_number (h : RP s l N p) {i : Nat} (hi : i < 5) : ∃ N', fX10_number N (nI i) = some (b01 (!decide ((dst s l p 4).1 = 0)), N') ∧ RK N N' ∧ RP s l N' (p + (dst s l p 4).1) ∧ (∀ q, q ≠ i → N' 7 q = N 7 q) ∧ ((dst s l p 4).1 ≠ 0 → N' 7 i = (dst s l p 4).2) := by
  unfold fX10_number
  rw [m_here h, clp_e]
  have hin := m_in h (a := 48) (b := 57) (by decide)
  rw [m_here h, clp_e] at hin
  rw [hin, clp_e, b01_ite]
  have e1 : dst s l p 1 = if dcond s l p 0 0 = true then (1, 10 * 0 + s (p + 0) - 48) else (0, 0) := by
    show (if (0 : Nat) = 0 ∧ dcond s l p 0 0 = true then _ else _) = _
    by_cases z : dcond s l p 0 0 = true
    · rw [if_pos ⟨rfl, z⟩, if_pos z]; rfl
    · rw [if_neg (fun y => z y.2), if_neg z]; rfl
  have hd : dcond s l p 0 0 = (decide (p < l) && (decide ((48 : Int32) ≤ s p) && decide (s p ≤ 57))) := rfl
  by_cases z : (decide (p < l) && (decide ((48 : Int32) ≤ s p) && decide (s p ≤ 57))) = true
  · rw [if_pos z]
    have hlt : p < l := by rw [Bool.and_eq_true, decide_eq_true_iff] at z; exact z.1
    rw [if_pos (hd.trans z)] at e1
    rw [h.2.2.2.1, bnd_e, nI_1, grd_T (inb_nI (by have := h.1; omega) (by omega)), nI_clamp (by have := h.1; omega), ms_other _ _ _ (by omega), h.2.2.1 p hlt, bnd_e, jn_e]
    have v1 : s p - 48 = (dst s l p 1).2 := by
      rw [e1]
      show s p - 48 = 10 * 0 + s (p + 0) - 48
      rw [show (10 : Int32) * 0 = 0 from by decide, Int32.zero_add, Nat.add_zero]
    rw [v1]
    have stp : ∀ (k6 : Int32 × Mem → Option (Int32 × Mem)) (t : Nat) (K : Mem), 1 ≤ t → t ≤ 4 → RP s l K (p + t) → (∃ v : Nat, (dst s l p t).2 = nI v ∧ v < 2 ^ 31) → ∀ k, fX10_number_L1 k6 k ((dst s l p t).2, nI t, K) = if t < 4 ∧ dcond s l p t (dst s l p t).2 = true then k (10 * (dst s l p t).2 + s (p + t) - 48, nI (t + 1), mset K 0 9 (nI (p + t + 1))) else k6 ((dst s l p t).2, K) := fun k6 t K ht1 ht hK hv k => by
      obtain ⟨v, hv1, hv2⟩ := hv
      have hin := m_in hK (a := 48) (b := 57) (by decide)
      rw [m_here hK, clp_e] at hin
      simp only [fX10_number_L1]
      by_cases c4 : t < 4
      · rw [if_neg (show ¬ (4 : Int32) ≤ nI t from nI_ge (b := 4) c4 (by omega))]
        by_cases v0 : (dst s l p t).2 = 0
        · rw [if_pos (show (dst s l p t).2 ≤ 0 by rw [v0]; decide), if_neg (fun y => by have := y.2; unfold dcond at this; rw [decide_eq_false (show ¬ t = 0 by omega), decide_eq_true v0] at this; simp at this)]
        · have vp : ¬ (dst s l p t).2 ≤ 0 := by
            rw [hv1]
            refine nI_nle ?_ hv2
            by_cases z0 : v = 0
            · rw [hv1, z0] at v0; exact absurd rfl v0
            · omega
          have e0 : (decide (t = 0) || !decide ((dst s l p t).2 = 0)) = true := by rw [decide_eq_false v0]; simp
          rw [if_neg vp, m_here hK, clp_e, hin, clp_e, b01_ite]
          by_cases y : (decide (p + t < l) && (decide ((48 : Int32) ≤ s (p + t)) && decide (s (p + t) ≤ 57))) = true
          · have hlt2 : p + t < l := by rw [Bool.and_eq_true, decide_eq_true_iff] at y; exact y.1
            rw [if_pos y, if_pos ⟨c4, show dcond s l p t (dst s l p t).2 = true by unfold dcond dgt; rw [y, e0]; rfl⟩, hK.2.2.2.1, bnd_e, nI_1, grd_T (inb_nI (by have := h.1; omega) (by omega)), nI_clamp (by have := h.1; omega), ms_other _ _ _ (by omega), hK.2.2.1 _ hlt2, bnd_e, bnd_e, nI_1]
          · rw [if_neg y, if_neg (fun w => y (by have := w.2; unfold dcond dgt at this; rw [Bool.and_eq_true] at this; exact this.2))]
      · rw [if_pos (show (4 : Int32) ≤ nI t from nI_le (a := 4) (by omega) (by omega)), if_neg (fun y => c4 y.1)]
    have bv : ∀ t, t ≤ 4 → ∃ v : Nat, (dst s l p t).2 = nI v ∧ v < 2 ^ 31 := fun t ht => by
      obtain ⟨v, a, b⟩ := dst_v s l p t ht
      have := Nat.pow_le_pow_right (show 0 < 10 by omega) ht
      exact ⟨v, a, by omega⟩
    have main := lp_inv (f := fX10_number_L1 (fun a5 => grd (inb (nI i) 5) (bnd (mset a5.2 7 (nI i).toNatClampNeg a5.1) (fun M7 => some (1, M7))))) (fun t (r : Int32 × Int32 × Mem) => r.1 = (dst s l p (t + 1)).2 ∧ r.2.1 = nI (t + 1) ∧ (dst s l p (t + 1)).1 = t + 1 ∧ RP s l r.2.2 (p + (t + 1)) ∧ RK N r.2.2 ∧ r.2.2 7 = N 7) (fun r => ∃ K, RP s l K (p + (dst s l p 4).1) ∧ RK N K ∧ K 7 = N 7 ∧ (dst s l p 4).1 ≠ 0 ∧ r = some (1, mset K 7 i (dst s l p 4).2)) 3 (by omega) (fun t ht r hr => by
      obtain ⟨v, x, K⟩ := r
      obtain ⟨r1, r2, r3, r4, r5, r6⟩ := hr
      dsimp only at r1 r2 r3 r4 r5 r6
      subst r1 r2
      by_cases y : dcond s l p (t + 1) (dst s l p (t + 1)).2 = true
      · have e2 : dst s l p (t + 1 + 1) = (t + 1 + 1, 10 * (dst s l p (t + 1)).2 + s (p + (t + 1)) - 48) := if_pos ⟨r3, y⟩
        have hlt2 : p + (t + 1) < l := by
          have w := y
          unfold dcond at w
          rw [Bool.and_eq_true, Bool.and_eq_true, decide_eq_true_iff] at w
          exact w.2.1
        refine Or.inl ⟨(10 * (dst s l p (t + 1)).2 + s (p + (t + 1)) - 48, nI (t + 1 + 1), mset K 0 9 (nI (p + (t + 1) + 1))), ⟨by rw [e2], rfl, by rw [e2], r4.pl (by have := h.1; omega), r5.tr (RK.pl K _), by show mset K 0 9 (nI (p + (t + 1) + 1)) 7 = N 7; rw [ms_other _ _ _ (by omega)]; exact r6⟩, fun k => ?_⟩
        rw [stp _ (t + 1) K (by omega) (by omega) r4 (bv _ (by omega)), if_pos ⟨by omega, y⟩]
      · have e2 := dst_fin s l p (t := t + 1) (by omega) r3 (Or.inr (Bool.not_eq_true _ |>.mp y))
        refine Or.inr ⟨_, ⟨K, by rw [e2, r3]; exact r4, r5, r6, by rw [e2, r3]; omega, rfl⟩, fun k => ?_⟩
        rw [stp _ (t + 1) K (by omega) (by omega) r4 (bv _ (by omega)), if_neg (fun w => y w.2), e2]
        dsimp only
        rw [grd_T (inb_nI hi (by omega)), bnd_e, nI_clamp (by omega)]) (fun r hr => by
      obtain ⟨v, x, K⟩ := r
      obtain ⟨r1, r2, r3, r4, r5, r6⟩ := hr
      dsimp only at r1 r2 r3 r4 r5 r6
      subst r1 r2
      refine ⟨_, ⟨K, by rw [r3]; exact r4, r5, r6, by rw [r3]; omega, rfl⟩, fun k => ?_⟩
      rw [stp _ 4 K (by omega) (by omega) r4 (bv _ (by omega)), if_neg (fun w => absurd w.1 (by omega))]
      dsimp only
      rw [grd_T (inb_nI hi (by omega)), bnd_e, nI_clamp (by omega)]) ((dst s l p 1).2, 1, mset N 0 9 (nI (p + 1))) ⟨rfl, rfl, by rw [e1], h.pl (by have := h.1; omega), RK.pl N _, by show mset N 0 9 (nI (p + 1)) 7 = N 7; rw [ms_other _ _ _ (by omega)]⟩
    obtain ⟨K, m1, m2, m3, m4, m5⟩ := main
    refine ⟨mset K 7 i (dst s l p 4).2, ?_, ⟨fun o a b => (ms_other _ _ _ b).trans (m2.1 o a b), fun k hk => by rw [ms_other _ _ _ (by omega)]; exact m2.2 k hk⟩, m1.it i _, fun q hq => by rw [ms_at, if_neg (fun y => hq y.2), m3], fun _ => by rw [ms_at, if_pos ⟨rfl, rfl⟩]⟩
    rw [decide_eq_false m4]
    exact m5
  · rw [if_neg z]
    have e0 : (dst s l p 4).1 = 0 := by
      have := dst_fin s l p (t := 0) (by omega) rfl (Or.inr (by rw [show (dst s l p 0).2 = 0 from rfl, hd]; exact Bool.not_eq_true _ |>.mp z))
      rw [this]; rfl
    refine ⟨N, by rw [e0]; rfl, RK.rf N, by rw [e0]; exact h, fun _ _ => rfl, fun y => absurd e0 y⟩
/-! errors stay -/
theorem sgn_err {c : Int32} {σ : Sg} {x : Nat} (h : σ.2 = some x) : sgn s l c σ = σ := by
  unfold sgn; rw [if_neg (by rw [h]; exact fun z => by cases z)]
theorem itc_err {i : Nat} {σ : Sg} {x : Nat} (h : σ.2 = some x) : (itc s l i σ).1 = σ := by
  unfold itc
  rw [sgn_err h]
  have : (if i = 0 then σ else σ) = σ := by split <;> rfl
  rw [this]
  unfold nmb
  rw [if_neg (by rw [h]; exact fun z => by cases z)]
theorem itl_err {σ : Sg} {i x : Nat} (h : (itl s l σ i).1.2 = some x) : ∀ n, i ≤ n → (itl s l σ n).1 = (itl s l σ i).1
  | 0, hn => by rw [show i = 0 by omega]
  | n + 1, hn => by
    by_cases e : i = n + 1
    · rw [e]
    · have ih := itl_err h n (by omega)
      show (itc s l n (itl s l σ n).1).1 = _
      rw [ih, itc_err h]
/-- the comma, where one is due -/
theorem m_comma (h : RP s l N p) (i : Nat) : ∃ N', RK N N' ∧ N' 7 = N 7 ∧ ((∃ p', (if i = 0 then ((p, none) : Sg) else sgn s l 44 (p, none)) = (p', none) ∧ RP s l N' p' ∧ ∀ (k8 k12 : Mem → Option (Int32 × Mem)), (if nI i ≤ 0 then k12 N else cl (fX10_takes N 44) (fun x16 M17 => if x16 = 0 then k8 M17 else k12 M17)) = k12 N') ∨ ((if i = 0 then ((p, none) : Sg) else sgn s l 44 (p, none)) = (p, some p) ∧ i ≠ 0 ∧ i < 2 ^ 31 → RP s l N' p ∧ ∀ (k8 k12 : Mem → Option (Int32 × Mem)), (if nI i ≤ 0 then k12 N else cl (fX10_takes N 44) (fun x16 M17 => if x16 = 0 then k8 M17 else k12 M17)) = k8 N')) := by
  by_cases e : i = 0
  · subst e
    exact ⟨N, RK.rf N, rfl, Or.inl ⟨p, rfl, h, fun k8 k12 => if_pos (show nI 0 ≤ 0 by decide)⟩⟩
  · rw [if_neg e]
    by_cases z : (decide (p < l) && decide (s p = 44)) = true
    · have hlt : p < l := by rw [Bool.and_eq_true, decide_eq_true_iff] at z; exact z.1
      by_cases hi : i < 2 ^ 31
      · exact ⟨mset N 0 9 (nI (p + 1)), RK.pl N _, ms_other _ _ _ (by omega), Or.inl ⟨p + 1, by unfold sgn; rw [if_pos rfl, if_pos z], h.pl (by have := h.1; omega), fun k8 k12 => by rw [if_neg (nI_nle (by omega) hi), m_takes h (by decide), if_pos z, cl_e, if_neg (by decide)]⟩⟩
      · exact ⟨N, RK.rf N, rfl, Or.inr (fun y => absurd y.2.2 hi)⟩
    · refine ⟨N, RK.rf N, rfl, Or.inr (fun y => ⟨h, fun k8 k12 => by rw [if_neg (nI_nle (by omega) y.2.2), m_takes h (by decide), if_neg z, cl_e, if_pos rfl]⟩)⟩
end P93
