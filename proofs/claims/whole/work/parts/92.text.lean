/-! call: text : the class reads its script -/
theorem rl_eq {P : Nat → Bool} {n i : Nat} (hi : i ≤ n) (h : ∀ q, q < i → P q = true) (he : i = n ∨ P i = false) : rl P n = i := by
  have key : ∀ k, k ≤ i → rl P k = k := by
    intro k
    induction k with
    | zero => intro _; rfl
    | succ k ih =>
      intro hk
      unfold rl
      rw [if_pos ⟨ih (by omega), h k (by omega)⟩]
  rcases he with rfl | he
  · exact key i (Nat.le_refl _)
  · have key2 : ∀ k, i ≤ k → k ≤ n → rl P k = i := by
      intro k
      induction k with
      | zero => intro h1 _; rw [show i = 0 by omega]; rfl
      | succ k ih =>
        intro h1 h2
        by_cases e : i = k + 1
        · rw [e]; exact key (k + 1) (by omega)
        · have := ih (by omega) (by omega)
          unfold rl
          rw [if_neg]
          · exact this
          · rintro ⟨z1, z2⟩
            rw [this] at z1
            subst z1
            rw [he] at z2; cases z2
    exact key2 n hi (Nat.le_refl _)
section P92
variable {s : Nat → Int32} {l : Nat} {M : Mem} {p : Nat}
theorem wlen_in (s : Nat → Int32) (l p : Nat) {i : Nat} (h : i < wlen s l p) : p + i < l ∧ ltr (s (p + i)) = true := by
  have := rl_all (lcond s l p) 60 i h
  unfold lcond at this
  rw [Bool.and_eq_true, decide_eq_true_iff] at this
  exact this
theorem wlen_b (s : Nat → Int32) (l p : Nat) : p + wlen s l p ≤ max p l := by
  by_cases h : wlen s l p = 0
  · rw [h]; omega
  · have := (wlen_in s l p (i := wlen s l p - 1) (by omega)).1
    omega
theorem x_letters (h : CP s l M (p, none)) (k3 : Mem → Option (Option Nat × Mem)) : ∃ K, CP s l K (p + wlen s l p, none) ∧ Kp M K ∧ lp (fX5_readWord_L2 k3) FU (0, M) = k3 K := by
  have stp : ∀ (i : Nat) (K : Mem), CP s l K (p + i, none) → i ≤ 60 → ∀ k, fX5_readWord_L2 k3 k (nI i, K) = if i < 60 ∧ lcond s l p i = true then k (nI (i + 1), mset K 472 2 (nI (p + i + 1))) else k3 K := fun i K hK hi k => by
    have hn := x_next hK 97 122
    simp only [fX5_readWord_L2]
    by_cases c : i < 60
    · rw [if_neg (show ¬ (60 : Int32) ≤ nI i from nI_ge (b := 60) c (by omega)), hn, clp_e, b01_ite]
      by_cases z : lcond s l p i = true
      · rw [if_pos (show (decide ((p + i, (none : Option Nat)).1 < l) && (decide ((97 : Int32) ≤ s (p + i, (none : Option Nat)).1) && decide (s (p + i, (none : Option Nat)).1 ≤ 122))) = true from z), if_pos ⟨c, z⟩, hK.2.2.2.1, bnd_e, bnd_e, nI_1, nI_1]
      · rw [if_neg (show ¬ (decide ((p + i, (none : Option Nat)).1 < l) && (decide ((97 : Int32) ≤ s (p + i, (none : Option Nat)).1) && decide (s (p + i, (none : Option Nat)).1 ≤ 122))) = true from z), if_neg (fun y => z y.2)]
    · rw [if_pos (show (60 : Int32) ≤ nI i from nI_le (a := 60) (by omega) (by omega)), if_neg (fun y => c y.1)]
  refine lp_inv (f := fX5_readWord_L2 k3) (fun i (r : Int32 × Mem) => r.1 = nI i ∧ CP s l r.2 (p + i, none) ∧ Kp M r.2 ∧ ∀ q, q < i → lcond s l p q = true) (fun r => ∃ K, CP s l K (p + wlen s l p, none) ∧ Kp M K ∧ r = k3 K) 60 (by omega) (fun i hi r hr => ?_) (fun r hr => ?_) (0, M) ⟨rfl, h, Kp.rf M, fun q hq => absurd hq (by omega)⟩
  · obtain ⟨x, K⟩ := r
    obtain ⟨r1, r2, r3, r4⟩ := hr
    dsimp only at r1 r2 r3
    subst r1
    by_cases z : lcond s l p i = true
    · refine Or.inl ⟨(nI (i + 1), mset K 472 2 (nI (p + i + 1))), ⟨rfl, r2.pl (by
        have := z
        unfold lcond at this
        rw [Bool.and_eq_true, decide_eq_true_iff] at this
        have := this.1
        have := r2.1
        omega), r3.tr (Kp.st K _ (Or.inl rfl)), fun q hq => ?_⟩, fun k => by rw [stp i K r2 (by omega), if_pos ⟨hi, z⟩]⟩
      by_cases e : q = i
      · rw [e]; exact z
      · exact r4 q (by omega)
    · have e : wlen s l p = i := rl_eq (by omega) r4 (Or.inr (Bool.not_eq_true _ |>.mp z))
      exact Or.inr ⟨k3 K, ⟨K, by rw [e]; exact r2, r3, rfl⟩, fun k => by rw [stp i K r2 (by omega), if_neg (fun y => z y.2)]⟩
  · obtain ⟨x, K⟩ := r
    obtain ⟨r1, r2, r3, r4⟩ := hr
    dsimp only at r1 r2 r3
    subst r1
    have e : wlen s l p = 60 := rl_eq (Nat.le_refl _) r4 (Or.inl rfl)
    exact ⟨k3 K, ⟨K, by rw [e]; exact r2, r3, rfl⟩, fun k => by rw [stp 60 K r2 (by omega), if_neg (fun y => absurd y.1 (by omega))]⟩
theorem x_isWord {K : Mem} (h : CP s l K (p + wlen s l p, none)) {o : Nat} (ho : o < 6) : fX5_isWord K (29 + o) (nI p) = some (b01 (weq s p (wlen s l p) o)) := by
  obtain ⟨h1, h2, h3, h4, h5, h6, h7⟩ := h
  dsimp only at h4 h6
  have sl6 : ∀ o : Fin 6, sl (29 + o.val) ≤ 60 := by decide +kernel
  have hs := sl6 ⟨o, ho⟩
  dsimp only at hs
  unfold fX5_isWord fJ0_length
  rw [clp_e, h4, nI_sub (by omega), show p + wlen s l p - p = wlen s l p by omega]
  unfold weq
  by_cases e : sl (29 + o) = wlen s l p
  · rw [if_pos (by rw [e]), decide_eq_true e, Bool.true_and]
    have step : ∀ i, i < sl (29 + o) → ∀ k, fX5_isWord_L1 (29 + o) (nI p) K k (nI i) = if decide ((TX (29 + o)).getD i 0 = s (p + i)) = true then k (nI (i + 1)) else some 0 := fun i hi k => by
      obtain ⟨c1, c2, c3, c4⟩ := char_ok (i := 29 + o) (k := i) (by omega) hi
      have hlt := (wlen_in s l p (i := i) (by omega)).1
      simp only [fX5_isWord_L1, fJ0_length]
      rw [clp_e, if_neg (nI_ge hi (by omega)), c1, clp_e, nI_add, grd_T (inb_nI (by omega) (by omega)), nI_clamp (by omega), h3 _ hlt, bnd_e, nI_1]
      by_cases z : (TX (29 + o)).getD i 0 = s (p + i)
      · rw [if_pos z, if_pos (decide_eq_true z)]
      · rw [if_neg z, if_neg (by rw [decide_eq_true_iff]; exact z)]
    have main := lp_fst (f := fX5_isWord_L1 (29 + o) (nI p) K) (s0 := (0 : Int32)) (fun i => nI i) (fun i => decide ((TX (29 + o)).getD i 0 = s (p + i))) (rt := some 1) (rf := fun _ => some 0) (sl (29 + o)) (by omega) rfl (fun i hi ht k => by rw [step i hi, if_pos ht]) (fun i hi ht k => by rw [step i hi, if_neg (by rw [ht]; decide)]) (fun k => by
      simp only [fX5_isWord_L1, fJ0_length]
      rw [clp_e, if_pos (nI_le (Nat.le_refl _) (by omega))])
    rw [main]
    cases al (fun i => decide ((TX (29 + o)).getD i 0 = s (p + i))) (sl (29 + o)) <;> rfl
  · have hw : wlen s l p ≤ 60 := rl_le _ 60
    rw [if_neg (fun z => e ((nI_eq (by omega) (by omega)).mp z)), decide_eq_false e]; rfl
theorem widx_s {n o : Nat} (ho : o < 6) (h : weq s p n o = true) (hb : ∀ q, q < o → weq s p n q = false) : widx s p n = some o :=
  fs1_some ((fs1_none o).mpr (fun i hi => by rw [hb i hi]; rfl)) (by rw [h]; rfl) 6 ho
theorem widx_n {n : Nat} (h : ∀ q, q < 6 → weq s p n q = false) : widx s p n = none :=
  (fs1_none 6).mpr (fun i hi => by rw [h i hi]; rfl)
theorem widx_o {n o : Nat} (h : widx s p n = some o) : o < 6 ∧ weq s p n o = true := by
  have key : ∀ m, fs1 (fun o => if weq s p n o then some o else none) m = some o → o < m ∧ weq s p n o = true := by
    intro m
    induction m with
    | zero => intro z; cases z
    | succ m ih =>
      intro z
      simp only [fs1] at z
      cases e : fs1 (fun o => if weq s p n o then some o else none) m with
      | some x =>
        rw [e] at z; cases z
        obtain ⟨a, b⟩ := ih e
        exact ⟨by omega, b⟩
      | none =>
        rw [e] at z
        have z' : (if weq s p n m = true then some m else none) = some o := z
        by_cases y : weq s p n m = true
        · rw [if_pos y] at z'; cases z'; exact ⟨by omega, y⟩
        · rw [if_neg y] at z'; cases z'
  exact key 6 h
theorem x_word (h : CP s l M (p, none)) : ∃ K, Kp M K ∧ ((widx s p (wlen s l p) = none ∧ fX5_readWord M = some (none, K) ∧ CP s l K (p + wlen s l p, some p)) ∨ ∃ o, widx s p (wlen s l p) = some o ∧ fX5_readWord M = some (some o, K) ∧ CP s l K (p + wlen s l p, none)) := by
  unfold fX5_readWord
  rw [h.2.2.2.1, bnd_e, jn_e]
  obtain ⟨K, k1, k2, k3⟩ := x_letters h (fun a2 => jn (fun (a4 : Unit) => bnd (mset a2 472 3 (nI (p, (none : Option Nat)).1)) (fun M6 => some (none, M6))) (fun k5 => jn (fun (a7 : Int32) => grd (inb a7 6) (some ((some a7.toNatClampNeg), a2))) (fun k8 => lp (fX5_readWord_L1 (nI (p, (none : Option Nat)).1) a2 k5 k8) FU 0)))
  rw [k3]
  dsimp only
  rw [jn_e, jn_e]
  have hp : p ≤ 60 := h.2.2.2.2.2.1
  have main := lp_srch (f := fX5_readWord_L1 (nI p) K (fun a4 => bnd (mset K 472 3 (nI p)) (fun M6 => some (none, M6))) (fun a7 => grd (inb a7 6) (some ((some a7.toNatClampNeg), K)))) (s0 := (0 : Int32)) (fun i => nI i) (fun o => !weq s p (wlen s l p) o) (rt := some (none, mset K 472 3 (nI p))) (rf := fun o => some (some o, K)) 6 (by omega) rfl
    (fun i hi ht k => by
      have ht' : weq s p (wlen s l p) i = false := by simpa using ht
      simp only [fX5_readWord_L1]
      rw [if_neg (show ¬ (6 : Int32) ≤ nI i from nI_ge (b := 6) hi (by omega)), grd_T (inb_nI hi (by omega)), nI_clamp (by omega), x_isWord k1 hi, clp_e, b01_ite, ht', if_neg (by decide), bnd_e, nI_1])
    (fun i hi ht k => by
      have ht' : weq s p (wlen s l p) i = true := by simpa using ht
      simp only [fX5_readWord_L1]
      rw [if_neg (show ¬ (6 : Int32) ≤ nI i from nI_ge (b := 6) hi (by omega)), grd_T (inb_nI hi (by omega)), nI_clamp (by omega), x_isWord k1 hi, clp_e, b01_ite, ht', if_pos rfl, grd_T (inb_nI hi (by omega))])
    (fun k => by
      simp only [fX5_readWord_L1]
      rw [if_pos (show (6 : Int32) ≤ nI 6 from nI_le (a := 6) (b := 6) (by omega) (by omega)), bnd_e])
  rcases main with ⟨m1, m2⟩ | ⟨o, m1, m2, m3, m4⟩
  · exact ⟨mset K 472 3 (nI p), k2.tr (Kp.st K _ (Or.inr rfl)), Or.inl ⟨widx_n (fun q hq => by have := al_T.mp m1 q hq; simpa using this), m2, k1.er hp⟩⟩
  · exact ⟨K, k2, Or.inr ⟨o, widx_s m1 (by simpa using m2) (fun q hq => by have := m3 q hq; simpa using this), m4, k1⟩⟩
theorem i5 (a b : Nat) : nI a * 5 + nI b = nI (5 * a + b) := by
  show nI a * nI 5 + nI b = _
  rw [nI_mul, nI_add, Nat.mul_comm]
/-- numbers read into their places -/
def Kn (M K : Mem) (k i : Nat) (f : Nat → Int32) : Prop := (∀ o, o ≠ 472 → o ≠ 476 → K o = M o) ∧ (∀ r, r ≠ 2 → r ≠ 3 → K 472 r = M 472 r) ∧ (∀ r, r < 5 * k → K 476 r = M 476 r) ∧ ∀ q, q < i → K 476 (5 * k + q) = f q
theorem x_items {σ : Sg} (h : CP s l M σ) {k o : Nat} (hk : k < 10) (ho : o < 6) (k9 : Mem → Option (Unit × Mem)) : ∃ K, CP s l K (itl s l σ (nwn o)).1 ∧ Kn M K k (nwn o) (itl s l σ (nwn o)).2 ∧ lp (fX5_readCommand_L1 (nI k) o k9) FU (0, M) = k9 K := by
  obtain ⟨n1, n2, n3⟩ := nw_e ho
  refine lp_inv (f := fX5_readCommand_L1 (nI k) o k9) (fun i (r : Int32 × Mem) => r.1 = nI i ∧ CP s l r.2 (itl s l σ i).1 ∧ Kn M r.2 k i (itl s l σ i).2) (fun r => ∃ K, CP s l K (itl s l σ (nwn o)).1 ∧ Kn M K k (nwn o) (itl s l σ (nwn o)).2 ∧ r = k9 K) (nwn o) (by omega) (fun i hi r hr => Or.inl ?_) (fun r hr => ?_) (0, M) ⟨rfl, h, fun _ _ _ => rfl, fun _ _ _ => rfl, fun _ _ => rfl, fun q hq => absurd hq (by omega)⟩
  · obtain ⟨x, K⟩ := r
    obtain ⟨r1, r2, r3⟩ := hr
    dsimp only at r1 r2 r3
    subst r1
    have sg : ∃ K1, CP s l K1 (if i = 0 then (itl s l σ i).1 else sgn s l 44 (itl s l σ i).1) ∧ Kp K K1 ∧ ∀ f : Mem → Option (Unit × Mem), (if nI i ≤ 0 then f K else cl (fX5_readSign K 44) (fun _ M22 => f M22)) = f K1 := by
      by_cases e : i = 0
      · subst e
        exact ⟨K, by rw [if_pos rfl]; exact r2, Kp.rf K, fun f => if_pos (show nI 0 ≤ 0 by decide)⟩
      · obtain ⟨K1, a, b, c⟩ := x_rsign r2 44
        exact ⟨K1, by rw [if_neg e]; exact b, c, fun f => by rw [if_neg (nI_nle (by omega) (by omega)), a, cl_e]⟩
    obtain ⟨K1, s1, s2, s3⟩ := sg
    obtain ⟨K2, t1, t2, t3⟩ := x_rnum s1
    have kp := s2.tr t3
    obtain ⟨a1, a2, a3, a4⟩ := r3
    refine ⟨(nI (i + 1), mset K2 476 (5 * k + i) (itc s l i (itl s l σ i).1).2), ⟨rfl, t2.set (by omega), fun q q1 q2 => ?_, fun r q1 q2 => ?_, fun r hr => ?_, fun q hq => ?_⟩, fun f => ?_⟩
    · show mset K2 476 (5 * k + i) (itc s l i (itl s l σ i).1).2 q = _
      rw [ms_other _ _ _ q2, kp.1 q q1]; exact a1 q q1 q2
    · show mset K2 476 (5 * k + i) (itc s l i (itl s l σ i).1).2 472 r = _
      rw [ms_other _ _ _ (by omega), kp.2 r q1 q2]; exact a2 r q1 q2
    · show mset K2 476 (5 * k + i) (itc s l i (itl s l σ i).1).2 476 r = _
      rw [ms_at, if_neg (by omega), kp.1 476 (by omega)]; exact a3 r hr
    · show mset K2 476 (5 * k + i) (itc s l i (itl s l σ i).1).2 476 (5 * k + q) = if q = i then (itc s l i (itl s l σ i).1).2 else (itl s l σ i).2 q
      rw [ms_at]
      by_cases e : q = i
      · subst e; rw [if_pos ⟨rfl, rfl⟩, if_pos rfl]
      · rw [if_neg (by omega), if_neg e, kp.1 476 (by omega)]; exact a4 q (by omega)
    · simp only [fX5_readCommand_L1]
      rw [n1, if_neg (nI_ge hi (by omega)), if_neg (show ¬ (5 : Int32) ≤ nI i from nI_ge (b := 5) (by omega) (by omega)), jn_e]
      refine Eq.trans (s3 (fun a15 => cl (fX5_readNumber a15) (fun x17 M18 => grd (inb (nI k * 5 + nI i) 50) (bnd (mset M18 476 (nI k * 5 + nI i).toNatClampNeg x17) (fun M19 => bnd (nI i + 1) (fun x20 => f (x20, M19))))))) ?_
      rw [t1, cl_e, i5, grd_T (inb_nI (by omega) (by omega)), nI_clamp (by omega), bnd_e, bnd_e, nI_1]
      rfl
  · obtain ⟨x, K⟩ := r
    obtain ⟨r1, r2, r3⟩ := hr
    dsimp only at r1 r2 r3
    subst r1
    refine ⟨k9 K, ⟨K, r2, r3, rfl⟩, fun f => ?_⟩
    simp only [fX5_readCommand_L1]
    rw [n1, if_pos (nI_le (Nat.le_refl _) (by omega))]
/-- a command read at place k of the lists -/
theorem x_rcmd (h : CP s l M (p, none)) {k : Nat} (hk : k < 10) : ∃ M', fX5_readCommand M (nI k) = some ((), M') ∧ (∀ o, o < 472 ∨ 477 ≤ o → M' o = M o) ∧ M' 474 k = nI p ∧ (∀ q, q ≠ k → M' 474 q = M 474 q ∧ M' 475 q = M 475 q) ∧ (∀ r, r < 5 * k → M' 476 r = M 476 r) ∧
    ((widx s p (wlen s l p) = none ∧ CP s l M' (p + wlen s l p, some p)) ∨ ∃ o, widx s p (wlen s l p) = some o ∧ CP s l M' (cmw s l p o).1 ∧ M' 472 1 = M 472 1 + 1 ∧ M' 475 k = nI o ∧ ∀ q, q < nwn o → M' 476 (5 * k + q) = (cmw s l p o).2 q) := by
  unfold fX5_readCommand
  rw [grd_T (inb_nI hk (by omega)), nI_clamp (by omega), h.2.2.2.1, bnd_e]
  obtain ⟨M1, hM1⟩ : ∃ z, z = mset M 474 k (nI (p, (none : Option Nat)).1) := ⟨_, rfl⟩
  rw [← hM1]
  have h1 : CP s l M1 (p, none) := by rw [hM1]; exact h.set (by omega)
  obtain ⟨K, w1, w2⟩ := x_word h1
  rcases w2 with ⟨w2, w3, w4⟩ | ⟨o, w2, w3, w4⟩
  · rw [w3]
    refine ⟨K, rfl, fun q hq => (w1.1 q (by omega)).trans (by rw [hM1, ms_other _ _ _ (by omega)]), by rw [w1.1 474 (by omega), hM1, ms_at, if_pos ⟨rfl, rfl⟩], fun q hq => ⟨by rw [w1.1 474 (by omega), hM1, ms_at, if_neg (fun z => hq z.2)], by rw [w1.1 475 (by omega), hM1, ms_other _ _ _ (by omega)]⟩, fun r hr => by rw [w1.1 476 (by omega), hM1, ms_other _ _ _ (by omega)], Or.inl ⟨w2, w4⟩⟩
  · obtain ⟨o6, _⟩ := widx_o w2
    have e : cln (some (some o, K)) (fun M2 => some ((), M2)) (fun o3 M4 => grd (decide (o3 < 6)) (grd (inb (nI k) 10) (bnd (mset M4 475 k (nI o3)) (fun M5 => cl (fX5_readSign M5 58) (fun u6 M7 => jn (fun (a8 : Mem) => cl (fX5_readSign a8 59) (fun u10 M11 => bnd (mset M11 472 1 ((M11 472 1) + 1)) (fun M12 => some ((), M12)))) (fun k9 => lp (fX5_readCommand_L1 (nI k) o3 k9) FU (0, M7))))))) = grd (decide (o < 6)) (grd (inb (nI k) 10) (bnd (mset K 475 k (nI o)) (fun M5 => cl (fX5_readSign M5 58) (fun u6 M7 => jn (fun (a8 : Mem) => cl (fX5_readSign a8 59) (fun u10 M11 => bnd (mset M11 472 1 ((M11 472 1) + 1)) (fun M12 => some ((), M12)))) (fun k9 => lp (fX5_readCommand_L1 (nI k) o k9) FU (0, M7)))))) := Eq.trans (Eq.refl _) (Eq.refl _)
    rw [w3, e, grd_T (decide_eq_true o6), grd_T (inb_nI hk (by omega)), bnd_e]
    obtain ⟨K1, c1, c2, c3⟩ := x_rsign (w4.set (o := 475) (k := k) (v := nI o) (by omega)) 58
    rw [c1, cl_e, jn_e]
    obtain ⟨K2, d1, d2, d3⟩ := x_items c2 hk o6 (fun a8 => cl (fX5_readSign a8 59) (fun u10 M11 => bnd (mset M11 472 1 ((M11 472 1) + 1)) (fun M12 => some ((), M12))))
    rw [d3]
    obtain ⟨K3, e1, e2, e3⟩ := x_rsign d1 59
    rw [e1, cl_e, bnd_e]
    obtain ⟨b1, b2, b3, b4⟩ := d2
    have ko : ∀ q, q ≠ 472 → q ≠ 476 → K3 q = mset K 475 k (nI o) q := fun q q1 q2 => (e3.1 q q1).trans ((b1 q q1 q2).trans (c3.1 q q1))
    have k76 : ∀ r, r < 5 * k → K3 476 r = M 476 r := fun r hr => by
      rw [e3.1 476 (by omega), b3 r hr, c3.1 476 (by omega), ms_other _ _ _ (by omega), w1.1 476 (by omega), hM1, ms_other _ _ _ (by omega)]
    have k1 : K3 472 1 = M 472 1 := by
      rw [e3.2 1 (by omega) (by omega), b2 1 (by omega) (by omega), c3.2 1 (by omega) (by omega), ms_other _ _ _ (by omega), w1.2 1 (by omega) (by omega), hM1, ms_other _ _ _ (by omega)]
    refine ⟨_, rfl, fun q hq => ?_, ?_, fun q hq => ⟨?_, ?_⟩, fun r hr => ?_, Or.inr ⟨o, w2, ?_, ?_, ?_, fun q hq => ?_⟩⟩
    · rw [ms_other _ _ _ (by omega), ko q (by omega) (by omega), ms_other _ _ _ (by omega), w1.1 q (by omega), hM1, ms_other _ _ _ (by omega)]
    · rw [ms_other _ _ _ (by omega), ko 474 (by omega) (by omega), ms_other _ _ _ (by omega), w1.1 474 (by omega), hM1, ms_at, if_pos ⟨rfl, rfl⟩]
    · rw [ms_other _ _ _ (by omega), ko 474 (by omega) (by omega), ms_other _ _ _ (by omega), w1.1 474 (by omega), hM1, ms_at, if_neg (fun z => hq z.2)]
    · rw [ms_other _ _ _ (by omega), ko 475 (by omega) (by omega), ms_at, if_neg (fun z => hq z.2), w1.1 475 (by omega), hM1, ms_other _ _ _ (by omega)]
    · rw [ms_other _ _ _ (by omega)]; exact k76 r hr
    · obtain ⟨y1, y2, y3, y4, y5, y6, y7⟩ := e2
      exact ⟨y1, by rw [ms_at, if_neg (by omega)]; exact y2, fun q hq => by rw [ms_other _ _ _ (by omega)]; exact y3 q hq, by rw [ms_at, if_neg (by omega)]; exact y4, by rw [ms_at, if_neg (by omega)]; exact y5, y6, y7⟩
    · rw [ms_at, if_pos ⟨rfl, rfl⟩, k1]
    · rw [ms_other _ _ _ (by omega), ko 475 (by omega) (by omega), ms_at, if_pos ⟨rfl, rfl⟩]
    · rw [ms_other _ _ _ (by omega), e3.1 476 (by omega)]; exact b4 q hq
end P92
